theorem dX0_init_0 : decode cX0_init 0 = .ok (.aload_n 0, 1) := by decide +kernel
theorem dX0_init_1 : decode cX0_init 1 = .ok (.invokespecial 3, 3) := by decide +kernel
theorem dX0_init_4 : decode cX0_init 4 = .ok (.aload_n 0, 1) := by decide +kernel
theorem dX0_init_5 : decode cX0_init 5 = .ok (.bipush 8, 2) := by decide +kernel
theorem dX0_init_7 : decode cX0_init 7 = .ok (.newarray .int, 2) := by decide +kernel
theorem dX0_init_9 : decode cX0_init 9 = .ok (.putfield 9, 3) := by decide +kernel
theorem dX0_init_12 : decode cX0_init 12 = .ok (.aload_n 0, 1) := by decide +kernel
theorem dX0_init_13 : decode cX0_init 13 = .ok (.bipush 8, 2) := by decide +kernel
theorem dX0_init_15 : decode cX0_init 15 = .ok (.newarray .int, 2) := by decide +kernel
theorem dX0_init_17 : decode cX0_init 17 = .ok (.putfield 15, 3) := by decide +kernel
theorem dX0_init_20 : decode cX0_init 20 = .ok (.aload_n 0, 1) := by decide +kernel
theorem dX0_init_21 : decode cX0_init 21 = .ok (.sipush 256, 3) := by decide +kernel
theorem dX0_init_24 : decode cX0_init 24 = .ok (.newarray .int, 2) := by decide +kernel
theorem dX0_init_26 : decode cX0_init 26 = .ok (.putfield 18, 3) := by decide +kernel
theorem dX0_init_29 : decode cX0_init 29 = .ok (.aload_n 0, 1) := by decide +kernel
theorem dX0_init_30 : decode cX0_init 30 = .ok (.sipush 256, 3) := by decide +kernel
theorem dX0_init_33 : decode cX0_init 33 = .ok (.newarray .int, 2) := by decide +kernel
theorem dX0_init_35 : decode cX0_init 35 = .ok (.putfield 21, 3) := by decide +kernel
theorem dX0_init_38 : decode cX0_init 38 = .ok (.aload_n 0, 1) := by decide +kernel
theorem dX0_init_39 : decode cX0_init 39 = .ok (.iconst 3, 1) := by decide +kernel
theorem dX0_init_40 : decode cX0_init 40 = .ok (.newarray .int, 2) := by decide +kernel
theorem dX0_init_42 : decode cX0_init 42 = .ok (.putfield 24, 3) := by decide +kernel
theorem dX0_init_45 : decode cX0_init 45 = .ok (.aload_n 0, 1) := by decide +kernel
theorem dX0_init_46 : decode cX0_init 46 = .ok (.bipush 8, 2) := by decide +kernel
theorem dX0_init_48 : decode cX0_init 48 = .ok (.newarray .int, 2) := by decide +kernel
theorem dX0_init_50 : decode cX0_init 50 = .ok (.putfield 27, 3) := by decide +kernel
theorem dX0_init_53 : decode cX0_init 53 = .ok (.aload_n 0, 1) := by decide +kernel
theorem dX0_init_54 : decode cX0_init 54 = .ok (.bipush 8, 2) := by decide +kernel
theorem dX0_init_56 : decode cX0_init 56 = .ok (.newarray .int, 2) := by decide +kernel
theorem dX0_init_58 : decode cX0_init 58 = .ok (.putfield 30, 3) := by decide +kernel
theorem dX0_init_61 : decode cX0_init 61 = .ok (.return_, 1) := by decide +kernel
theorem dX0_collect_0 : decode cX0_collect 0 = .ok (.aload_n 0, 1) := by decide +kernel
theorem dX0_collect_1 : decode cX0_collect 1 = .ok (.iconst 0, 1) := by decide +kernel
theorem dX0_collect_2 : decode cX0_collect 2 = .ok (.putfield 33, 3) := by decide +kernel
theorem dX0_collect_5 : decode cX0_collect 5 = .ok (.iconst 0, 1) := by decide +kernel
theorem dX0_collect_6 : decode cX0_collect 6 = .ok (.istore 4, 2) := by decide +kernel
theorem dX0_collect_8 : decode cX0_collect 8 = .ok (.iload 4, 2) := by decide +kernel
theorem dX0_collect_10 : decode cX0_collect 10 = .ok (.aload_n 1, 1) := by decide +kernel
theorem dX0_collect_11 : decode cX0_collect 11 = .ok (.getfield 37, 3) := by decide +kernel
theorem dX0_collect_14 : decode cX0_collect 14 = .ok (.getfield 43, 3) := by decide +kernel
theorem dX0_collect_17 : decode cX0_collect 17 = .ok (.if_icmp .ge 70, 3) := by decide +kernel
theorem dX0_collect_20 : decode cX0_collect 20 = .ok (.aload_n 1, 1) := by decide +kernel
theorem dX0_collect_21 : decode cX0_collect 21 = .ok (.getfield 48, 3) := by decide +kernel
theorem dX0_collect_24 : decode cX0_collect 24 = .ok (.iload 4, 2) := by decide +kernel
theorem dX0_collect_26 : decode cX0_collect 26 = .ok (.iaload, 1) := by decide +kernel
theorem dX0_collect_27 : decode cX0_collect 27 = .ok (.iload_n 2, 1) := by decide +kernel
theorem dX0_collect_28 : decode cX0_collect 28 = .ok (.if_icmp .ne 53, 3) := by decide +kernel
theorem dX0_collect_31 : decode cX0_collect 31 = .ok (.aload_n 0, 1) := by decide +kernel
theorem dX0_collect_32 : decode cX0_collect 32 = .ok (.getfield 9, 3) := by decide +kernel
theorem dX0_collect_35 : decode cX0_collect 35 = .ok (.aload_n 0, 1) := by decide +kernel
theorem dX0_collect_36 : decode cX0_collect 36 = .ok (.getfield 33, 3) := by decide +kernel
theorem dX0_collect_39 : decode cX0_collect 39 = .ok (.iload 4, 2) := by decide +kernel
theorem dX0_collect_41 : decode cX0_collect 41 = .ok (.iastore, 1) := by decide +kernel
theorem dX0_collect_42 : decode cX0_collect 42 = .ok (.aload_n 0, 1) := by decide +kernel
theorem dX0_collect_43 : decode cX0_collect 43 = .ok (.getfield 15, 3) := by decide +kernel
theorem dX0_collect_46 : decode cX0_collect 46 = .ok (.aload_n 0, 1) := by decide +kernel
theorem dX0_collect_47 : decode cX0_collect 47 = .ok (.getfield 33, 3) := by decide +kernel
theorem dX0_collect_50 : decode cX0_collect 50 = .ok (.iload_n 3, 1) := by decide +kernel
theorem dX0_collect_51 : decode cX0_collect 51 = .ok (.ifCond .eq 12, 3) := by decide +kernel
theorem dX0_collect_54 : decode cX0_collect 54 = .ok (.aload_n 1, 1) := by decide +kernel
theorem dX0_collect_55 : decode cX0_collect 55 = .ok (.iload 4, 2) := by decide +kernel
theorem dX0_collect_57 : decode cX0_collect 57 = .ok (.invokevirtual 51, 3) := by decide +kernel
theorem dX0_collect_60 : decode cX0_collect 60 = .ok (.goto 10, 3) := by decide +kernel
theorem dX0_collect_63 : decode cX0_collect 63 = .ok (.aload_n 1, 1) := by decide +kernel
theorem dX0_collect_64 : decode cX0_collect 64 = .ok (.getfield 55, 3) := by decide +kernel
theorem dX0_collect_67 : decode cX0_collect 67 = .ok (.iload 4, 2) := by decide +kernel
theorem dX0_collect_69 : decode cX0_collect 69 = .ok (.iaload, 1) := by decide +kernel
theorem dX0_collect_70 : decode cX0_collect 70 = .ok (.iastore, 1) := by decide +kernel
theorem dX0_collect_71 : decode cX0_collect 71 = .ok (.aload_n 0, 1) := by decide +kernel
theorem dX0_collect_72 : decode cX0_collect 72 = .ok (.dup, 1) := by decide +kernel
theorem dX0_collect_73 : decode cX0_collect 73 = .ok (.getfield 33, 3) := by decide +kernel
theorem dX0_collect_76 : decode cX0_collect 76 = .ok (.iconst 1, 1) := by decide +kernel
theorem dX0_collect_77 : decode cX0_collect 77 = .ok (.iadd, 1) := by decide +kernel
theorem dX0_collect_78 : decode cX0_collect 78 = .ok (.putfield 33, 3) := by decide +kernel
theorem dX0_collect_81 : decode cX0_collect 81 = .ok (.iinc 4 1, 3) := by decide +kernel
theorem dX0_collect_84 : decode cX0_collect 84 = .ok (.goto (-76), 3) := by decide +kernel
theorem dX0_collect_87 : decode cX0_collect 87 = .ok (.return_, 1) := by decide +kernel
theorem dX0_sumUp_0 : decode cX0_sumUp 0 = .ok (.aload_n 0, 1) := by decide +kernel
theorem dX0_sumUp_1 : decode cX0_sumUp 1 = .ok (.getfield 18, 3) := by decide +kernel
theorem dX0_sumUp_4 : decode cX0_sumUp 4 = .ok (.iconst 0, 1) := by decide +kernel
theorem dX0_sumUp_5 : decode cX0_sumUp 5 = .ok (.iconst 0, 1) := by decide +kernel
theorem dX0_sumUp_6 : decode cX0_sumUp 6 = .ok (.iastore, 1) := by decide +kernel
theorem dX0_sumUp_7 : decode cX0_sumUp 7 = .ok (.iconst 0, 1) := by decide +kernel
theorem dX0_sumUp_8 : decode cX0_sumUp 8 = .ok (.istore_n 1, 1) := by decide +kernel
theorem dX0_sumUp_9 : decode cX0_sumUp 9 = .ok (.iload_n 1, 1) := by decide +kernel
theorem dX0_sumUp_10 : decode cX0_sumUp 10 = .ok (.aload_n 0, 1) := by decide +kernel
theorem dX0_sumUp_11 : decode cX0_sumUp 11 = .ok (.getfield 33, 3) := by decide +kernel
theorem dX0_sumUp_14 : decode cX0_sumUp 14 = .ok (.if_icmp .ge 49, 3) := by decide +kernel
theorem dX0_sumUp_17 : decode cX0_sumUp 17 = .ok (.iconst 1, 1) := by decide +kernel
theorem dX0_sumUp_18 : decode cX0_sumUp 18 = .ok (.iload_n 1, 1) := by decide +kernel
theorem dX0_sumUp_19 : decode cX0_sumUp 19 = .ok (.ishl, 1) := by decide +kernel
theorem dX0_sumUp_20 : decode cX0_sumUp 20 = .ok (.istore_n 2, 1) := by decide +kernel
theorem dX0_sumUp_21 : decode cX0_sumUp 21 = .ok (.iload_n 2, 1) := by decide +kernel
theorem dX0_sumUp_22 : decode cX0_sumUp 22 = .ok (.istore_n 3, 1) := by decide +kernel
theorem dX0_sumUp_23 : decode cX0_sumUp 23 = .ok (.iload_n 3, 1) := by decide +kernel
theorem dX0_sumUp_24 : decode cX0_sumUp 24 = .ok (.iconst 2, 1) := by decide +kernel
theorem dX0_sumUp_25 : decode cX0_sumUp 25 = .ok (.iload_n 2, 1) := by decide +kernel
theorem dX0_sumUp_26 : decode cX0_sumUp 26 = .ok (.imul, 1) := by decide +kernel
theorem dX0_sumUp_27 : decode cX0_sumUp 27 = .ok (.if_icmp .ge 30, 3) := by decide +kernel
theorem dX0_sumUp_30 : decode cX0_sumUp 30 = .ok (.aload_n 0, 1) := by decide +kernel
theorem dX0_sumUp_31 : decode cX0_sumUp 31 = .ok (.getfield 18, 3) := by decide +kernel
theorem dX0_sumUp_34 : decode cX0_sumUp 34 = .ok (.iload_n 3, 1) := by decide +kernel
theorem dX0_sumUp_35 : decode cX0_sumUp 35 = .ok (.aload_n 0, 1) := by decide +kernel
theorem dX0_sumUp_36 : decode cX0_sumUp 36 = .ok (.getfield 18, 3) := by decide +kernel
theorem dX0_sumUp_39 : decode cX0_sumUp 39 = .ok (.iload_n 3, 1) := by decide +kernel
theorem dX0_sumUp_40 : decode cX0_sumUp 40 = .ok (.iload_n 2, 1) := by decide +kernel
theorem dX0_sumUp_41 : decode cX0_sumUp 41 = .ok (.isub, 1) := by decide +kernel
theorem dX0_sumUp_42 : decode cX0_sumUp 42 = .ok (.iaload, 1) := by decide +kernel
theorem dX0_sumUp_43 : decode cX0_sumUp 43 = .ok (.aload_n 0, 1) := by decide +kernel
theorem dX0_sumUp_44 : decode cX0_sumUp 44 = .ok (.getfield 15, 3) := by decide +kernel
theorem dX0_sumUp_47 : decode cX0_sumUp 47 = .ok (.iload_n 1, 1) := by decide +kernel
theorem dX0_sumUp_48 : decode cX0_sumUp 48 = .ok (.iaload, 1) := by decide +kernel
theorem dX0_sumUp_49 : decode cX0_sumUp 49 = .ok (.iadd, 1) := by decide +kernel
theorem dX0_sumUp_50 : decode cX0_sumUp 50 = .ok (.iastore, 1) := by decide +kernel
theorem dX0_sumUp_51 : decode cX0_sumUp 51 = .ok (.iinc 3 1, 3) := by decide +kernel
theorem dX0_sumUp_54 : decode cX0_sumUp 54 = .ok (.goto (-31), 3) := by decide +kernel
theorem dX0_sumUp_57 : decode cX0_sumUp 57 = .ok (.iinc 1 1, 3) := by decide +kernel
theorem dX0_sumUp_60 : decode cX0_sumUp 60 = .ok (.goto (-51), 3) := by decide +kernel
theorem dX0_sumUp_63 : decode cX0_sumUp 63 = .ok (.return_, 1) := by decide +kernel
theorem dX0_lakeBits_0 : decode cX0_lakeBits 0 = .ok (.iconst 0, 1) := by decide +kernel
theorem dX0_lakeBits_1 : decode cX0_lakeBits 1 = .ok (.istore_n 2, 1) := by decide +kernel
theorem dX0_lakeBits_2 : decode cX0_lakeBits 2 = .ok (.iconst 0, 1) := by decide +kernel
theorem dX0_lakeBits_3 : decode cX0_lakeBits 3 = .ok (.istore_n 3, 1) := by decide +kernel
theorem dX0_lakeBits_4 : decode cX0_lakeBits 4 = .ok (.iload_n 3, 1) := by decide +kernel
theorem dX0_lakeBits_5 : decode cX0_lakeBits 5 = .ok (.aload_n 0, 1) := by decide +kernel
theorem dX0_lakeBits_6 : decode cX0_lakeBits 6 = .ok (.getfield 33, 3) := by decide +kernel
theorem dX0_lakeBits_9 : decode cX0_lakeBits 9 = .ok (.if_icmp .ge 28, 3) := by decide +kernel
theorem dX0_lakeBits_12 : decode cX0_lakeBits 12 = .ok (.iload_n 1, 1) := by decide +kernel
theorem dX0_lakeBits_13 : decode cX0_lakeBits 13 = .ok (.iconst 1, 1) := by decide +kernel
theorem dX0_lakeBits_14 : decode cX0_lakeBits 14 = .ok (.iload_n 3, 1) := by decide +kernel
theorem dX0_lakeBits_15 : decode cX0_lakeBits 15 = .ok (.ishl, 1) := by decide +kernel
theorem dX0_lakeBits_16 : decode cX0_lakeBits 16 = .ok (.iand, 1) := by decide +kernel
theorem dX0_lakeBits_17 : decode cX0_lakeBits 17 = .ok (.ifCond .eq 14, 3) := by decide +kernel
theorem dX0_lakeBits_20 : decode cX0_lakeBits 20 = .ok (.iload_n 2, 1) := by decide +kernel
theorem dX0_lakeBits_21 : decode cX0_lakeBits 21 = .ok (.iconst 1, 1) := by decide +kernel
theorem dX0_lakeBits_22 : decode cX0_lakeBits 22 = .ok (.aload_n 0, 1) := by decide +kernel
theorem dX0_lakeBits_23 : decode cX0_lakeBits 23 = .ok (.getfield 9, 3) := by decide +kernel
theorem dX0_lakeBits_26 : decode cX0_lakeBits 26 = .ok (.iload_n 3, 1) := by decide +kernel
theorem dX0_lakeBits_27 : decode cX0_lakeBits 27 = .ok (.iaload, 1) := by decide +kernel
theorem dX0_lakeBits_28 : decode cX0_lakeBits 28 = .ok (.ishl, 1) := by decide +kernel
theorem dX0_lakeBits_29 : decode cX0_lakeBits 29 = .ok (.ior, 1) := by decide +kernel
theorem dX0_lakeBits_30 : decode cX0_lakeBits 30 = .ok (.istore_n 2, 1) := by decide +kernel
theorem dX0_lakeBits_31 : decode cX0_lakeBits 31 = .ok (.iinc 3 1, 3) := by decide +kernel
theorem dX0_lakeBits_34 : decode cX0_lakeBits 34 = .ok (.goto (-30), 3) := by decide +kernel
theorem dX0_lakeBits_37 : decode cX0_lakeBits 37 = .ok (.iload_n 2, 1) := by decide +kernel
theorem dX0_lakeBits_38 : decode cX0_lakeBits 38 = .ok (.ireturn, 1) := by decide +kernel
theorem dX0_payers_0 : decode cX0_payers 0 = .ok (.aload_n 0, 1) := by decide +kernel
theorem dX0_payers_1 : decode cX0_payers 1 = .ok (.aload_n 1, 1) := by decide +kernel
theorem dX0_payers_2 : decode cX0_payers 2 = .ok (.iload_n 2, 1) := by decide +kernel
theorem dX0_payers_3 : decode cX0_payers 3 = .ok (.iconst 1, 1) := by decide +kernel
theorem dX0_payers_4 : decode cX0_payers 4 = .ok (.invokevirtual 58, 3) := by decide +kernel
theorem dX0_payers_7 : decode cX0_payers 7 = .ok (.aload_n 0, 1) := by decide +kernel
theorem dX0_payers_8 : decode cX0_payers 8 = .ok (.invokevirtual 62, 3) := by decide +kernel
theorem dX0_payers_11 : decode cX0_payers 11 = .ok (.iconst (-1), 1) := by decide +kernel
theorem dX0_payers_12 : decode cX0_payers 12 = .ok (.istore 4, 2) := by decide +kernel
theorem dX0_payers_14 : decode cX0_payers 14 = .ok (.iconst 0, 1) := by decide +kernel
theorem dX0_payers_15 : decode cX0_payers 15 = .ok (.istore 5, 2) := by decide +kernel
theorem dX0_payers_17 : decode cX0_payers 17 = .ok (.iload 5, 2) := by decide +kernel
theorem dX0_payers_19 : decode cX0_payers 19 = .ok (.iconst 1, 1) := by decide +kernel
theorem dX0_payers_20 : decode cX0_payers 20 = .ok (.aload_n 0, 1) := by decide +kernel
theorem dX0_payers_21 : decode cX0_payers 21 = .ok (.getfield 33, 3) := by decide +kernel
theorem dX0_payers_24 : decode cX0_payers 24 = .ok (.ishl, 1) := by decide +kernel
theorem dX0_payers_25 : decode cX0_payers 25 = .ok (.if_icmp .ge 41, 3) := by decide +kernel
theorem dX0_payers_28 : decode cX0_payers 28 = .ok (.aload_n 0, 1) := by decide +kernel
theorem dX0_payers_29 : decode cX0_payers 29 = .ok (.getfield 18, 3) := by decide +kernel
theorem dX0_payers_32 : decode cX0_payers 32 = .ok (.iload 5, 2) := by decide +kernel
theorem dX0_payers_34 : decode cX0_payers 34 = .ok (.iaload, 1) := by decide +kernel
theorem dX0_payers_35 : decode cX0_payers 35 = .ok (.iload_n 3, 1) := by decide +kernel
theorem dX0_payers_36 : decode cX0_payers 36 = .ok (.if_icmp .lt 24, 3) := by decide +kernel
theorem dX0_payers_39 : decode cX0_payers 39 = .ok (.iload 4, 2) := by decide +kernel
theorem dX0_payers_41 : decode cX0_payers 41 = .ok (.iconst (-1), 1) := by decide +kernel
theorem dX0_payers_42 : decode cX0_payers 42 = .ok (.if_icmp .eq 14, 3) := by decide +kernel
theorem dX0_payers_45 : decode cX0_payers 45 = .ok (.aload_n 0, 1) := by decide +kernel
theorem dX0_payers_46 : decode cX0_payers 46 = .ok (.iload 5, 2) := by decide +kernel
theorem dX0_payers_48 : decode cX0_payers 48 = .ok (.iload 4, 2) := by decide +kernel
theorem dX0_payers_50 : decode cX0_payers 50 = .ok (.invokevirtual 65, 3) := by decide +kernel
theorem dX0_payers_53 : decode cX0_payers 53 = .ok (.ifCond .eq 7, 3) := by decide +kernel
theorem dX0_payers_56 : decode cX0_payers 56 = .ok (.iload 5, 2) := by decide +kernel
theorem dX0_payers_58 : decode cX0_payers 58 = .ok (.istore 4, 2) := by decide +kernel
theorem dX0_payers_60 : decode cX0_payers 60 = .ok (.iinc 5 1, 3) := by decide +kernel
theorem dX0_payers_63 : decode cX0_payers 63 = .ok (.goto (-46), 3) := by decide +kernel
theorem dX0_payers_66 : decode cX0_payers 66 = .ok (.iload 4, 2) := by decide +kernel
theorem dX0_payers_68 : decode cX0_payers 68 = .ok (.iconst (-1), 1) := by decide +kernel
theorem dX0_payers_69 : decode cX0_payers 69 = .ok (.if_icmp .ne 5, 3) := by decide +kernel
theorem dX0_payers_72 : decode cX0_payers 72 = .ok (.iconst (-1), 1) := by decide +kernel
theorem dX0_payers_73 : decode cX0_payers 73 = .ok (.ireturn, 1) := by decide +kernel
theorem dX0_payers_74 : decode cX0_payers 74 = .ok (.aload_n 0, 1) := by decide +kernel
theorem dX0_payers_75 : decode cX0_payers 75 = .ok (.aload_n 0, 1) := by decide +kernel
theorem dX0_payers_76 : decode cX0_payers 76 = .ok (.getfield 18, 3) := by decide +kernel
theorem dX0_payers_79 : decode cX0_payers 79 = .ok (.iload 4, 2) := by decide +kernel
theorem dX0_payers_81 : decode cX0_payers 81 = .ok (.iaload, 1) := by decide +kernel
theorem dX0_payers_82 : decode cX0_payers 82 = .ok (.iload_n 3, 1) := by decide +kernel
theorem dX0_payers_83 : decode cX0_payers 83 = .ok (.isub, 1) := by decide +kernel
theorem dX0_payers_84 : decode cX0_payers 84 = .ok (.putfield 69, 3) := by decide +kernel
theorem dX0_payers_87 : decode cX0_payers 87 = .ok (.aload_n 0, 1) := by decide +kernel
theorem dX0_payers_88 : decode cX0_payers 88 = .ok (.iload 4, 2) := by decide +kernel
theorem dX0_payers_90 : decode cX0_payers 90 = .ok (.invokevirtual 72, 3) := by decide +kernel
theorem dX0_payers_93 : decode cX0_payers 93 = .ok (.ireturn, 1) := by decide +kernel
theorem dX0_paysBetter_0 : decode cX0_paysBetter 0 = .ok (.aload_n 0, 1) := by decide +kernel
theorem dX0_paysBetter_1 : decode cX0_paysBetter 1 = .ok (.getfield 18, 3) := by decide +kernel
theorem dX0_paysBetter_4 : decode cX0_paysBetter 4 = .ok (.iload_n 1, 1) := by decide +kernel
theorem dX0_paysBetter_5 : decode cX0_paysBetter 5 = .ok (.iaload, 1) := by decide +kernel
theorem dX0_paysBetter_6 : decode cX0_paysBetter 6 = .ok (.aload_n 0, 1) := by decide +kernel
theorem dX0_paysBetter_7 : decode cX0_paysBetter 7 = .ok (.getfield 18, 3) := by decide +kernel
theorem dX0_paysBetter_10 : decode cX0_paysBetter 10 = .ok (.iload_n 2, 1) := by decide +kernel
theorem dX0_paysBetter_11 : decode cX0_paysBetter 11 = .ok (.iaload, 1) := by decide +kernel
theorem dX0_paysBetter_12 : decode cX0_paysBetter 12 = .ok (.if_icmp .eq 24, 3) := by decide +kernel
theorem dX0_paysBetter_15 : decode cX0_paysBetter 15 = .ok (.aload_n 0, 1) := by decide +kernel
theorem dX0_paysBetter_16 : decode cX0_paysBetter 16 = .ok (.getfield 18, 3) := by decide +kernel
theorem dX0_paysBetter_19 : decode cX0_paysBetter 19 = .ok (.iload_n 1, 1) := by decide +kernel
theorem dX0_paysBetter_20 : decode cX0_paysBetter 20 = .ok (.iaload, 1) := by decide +kernel
theorem dX0_paysBetter_21 : decode cX0_paysBetter 21 = .ok (.aload_n 0, 1) := by decide +kernel
theorem dX0_paysBetter_22 : decode cX0_paysBetter 22 = .ok (.getfield 18, 3) := by decide +kernel
theorem dX0_paysBetter_25 : decode cX0_paysBetter 25 = .ok (.iload_n 2, 1) := by decide +kernel
theorem dX0_paysBetter_26 : decode cX0_paysBetter 26 = .ok (.iaload, 1) := by decide +kernel
theorem dX0_paysBetter_27 : decode cX0_paysBetter 27 = .ok (.if_icmp .ge 7, 3) := by decide +kernel
theorem dX0_paysBetter_30 : decode cX0_paysBetter 30 = .ok (.iconst 1, 1) := by decide +kernel
theorem dX0_paysBetter_31 : decode cX0_paysBetter 31 = .ok (.goto 4, 3) := by decide +kernel
theorem dX0_paysBetter_34 : decode cX0_paysBetter 34 = .ok (.iconst 0, 1) := by decide +kernel
theorem dX0_paysBetter_35 : decode cX0_paysBetter 35 = .ok (.ireturn, 1) := by decide +kernel
theorem dX0_paysBetter_36 : decode cX0_paysBetter 36 = .ok (.iload_n 1, 1) := by decide +kernel
theorem dX0_paysBetter_37 : decode cX0_paysBetter 37 = .ok (.invokestatic 75, 3) := by decide +kernel
theorem dX0_paysBetter_40 : decode cX0_paysBetter 40 = .ok (.iload_n 2, 1) := by decide +kernel
theorem dX0_paysBetter_41 : decode cX0_paysBetter 41 = .ok (.invokestatic 75, 3) := by decide +kernel
theorem dX0_paysBetter_44 : decode cX0_paysBetter 44 = .ok (.if_icmp .ge 7, 3) := by decide +kernel
theorem dX0_paysBetter_47 : decode cX0_paysBetter 47 = .ok (.iconst 1, 1) := by decide +kernel
theorem dX0_paysBetter_48 : decode cX0_paysBetter 48 = .ok (.goto 4, 3) := by decide +kernel
theorem dX0_paysBetter_51 : decode cX0_paysBetter 51 = .ok (.iconst 0, 1) := by decide +kernel
theorem dX0_paysBetter_52 : decode cX0_paysBetter 52 = .ok (.ireturn, 1) := by decide +kernel
theorem dX0_packing_0 : decode cX0_packing 0 = .ok (.aload_n 0, 1) := by decide +kernel
theorem dX0_packing_1 : decode cX0_packing 1 = .ok (.aload_n 1, 1) := by decide +kernel
theorem dX0_packing_2 : decode cX0_packing 2 = .ok (.iload_n 2, 1) := by decide +kernel
theorem dX0_packing_3 : decode cX0_packing 3 = .ok (.iconst 0, 1) := by decide +kernel
theorem dX0_packing_4 : decode cX0_packing 4 = .ok (.invokevirtual 58, 3) := by decide +kernel
theorem dX0_packing_7 : decode cX0_packing 7 = .ok (.aload_n 0, 1) := by decide +kernel
theorem dX0_packing_8 : decode cX0_packing 8 = .ok (.invokevirtual 62, 3) := by decide +kernel
theorem dX0_packing_11 : decode cX0_packing 11 = .ok (.iconst 1, 1) := by decide +kernel
theorem dX0_packing_12 : decode cX0_packing 12 = .ok (.aload_n 0, 1) := by decide +kernel
theorem dX0_packing_13 : decode cX0_packing 13 = .ok (.getfield 33, 3) := by decide +kernel
theorem dX0_packing_16 : decode cX0_packing 16 = .ok (.ishl, 1) := by decide +kernel
theorem dX0_packing_17 : decode cX0_packing 17 = .ok (.iconst 1, 1) := by decide +kernel
theorem dX0_packing_18 : decode cX0_packing 18 = .ok (.isub, 1) := by decide +kernel
theorem dX0_packing_19 : decode cX0_packing 19 = .ok (.istore_n 3, 1) := by decide +kernel
theorem dX0_packing_20 : decode cX0_packing 20 = .ok (.aload_n 0, 1) := by decide +kernel
theorem dX0_packing_21 : decode cX0_packing 21 = .ok (.getfield 21, 3) := by decide +kernel
theorem dX0_packing_24 : decode cX0_packing 24 = .ok (.ldc 80, 2) := by decide +kernel
theorem dX0_packing_26 : decode cX0_packing 26 = .ok (.invokestatic 81, 3) := by decide +kernel
theorem dX0_packing_29 : decode cX0_packing 29 = .ok (.aload_n 0, 1) := by decide +kernel
theorem dX0_packing_30 : decode cX0_packing 30 = .ok (.getfield 21, 3) := by decide +kernel
theorem dX0_packing_33 : decode cX0_packing 33 = .ok (.iconst 0, 1) := by decide +kernel
theorem dX0_packing_34 : decode cX0_packing 34 = .ok (.iconst 0, 1) := by decide +kernel
theorem dX0_packing_35 : decode cX0_packing 35 = .ok (.iastore, 1) := by decide +kernel
theorem dX0_packing_36 : decode cX0_packing 36 = .ok (.iconst 0, 1) := by decide +kernel
theorem dX0_packing_37 : decode cX0_packing 37 = .ok (.istore 4, 2) := by decide +kernel
theorem dX0_packing_39 : decode cX0_packing 39 = .ok (.iload 4, 2) := by decide +kernel
theorem dX0_packing_41 : decode cX0_packing 41 = .ok (.aload_n 1, 1) := by decide +kernel
theorem dX0_packing_42 : decode cX0_packing 42 = .ok (.getfield 37, 3) := by decide +kernel
theorem dX0_packing_45 : decode cX0_packing 45 = .ok (.getfield 87, 3) := by decide +kernel
theorem dX0_packing_48 : decode cX0_packing 48 = .ok (.if_icmp .ge 29, 3) := by decide +kernel
theorem dX0_packing_51 : decode cX0_packing 51 = .ok (.aload_n 0, 1) := by decide +kernel
theorem dX0_packing_52 : decode cX0_packing 52 = .ok (.sipush 256, 3) := by decide +kernel
theorem dX0_packing_55 : decode cX0_packing 55 = .ok (.iconst 1, 1) := by decide +kernel
theorem dX0_packing_56 : decode cX0_packing 56 = .ok (.iload 4, 2) := by decide +kernel
theorem dX0_packing_58 : decode cX0_packing 58 = .ok (.ishl, 1) := by decide +kernel
theorem dX0_packing_59 : decode cX0_packing 59 = .ok (.iadd, 1) := by decide +kernel
theorem dX0_packing_60 : decode cX0_packing 60 = .ok (.aload_n 0, 1) := by decide +kernel
theorem dX0_packing_61 : decode cX0_packing 61 = .ok (.aload_n 1, 1) := by decide +kernel
theorem dX0_packing_62 : decode cX0_packing 62 = .ok (.iload 4, 2) := by decide +kernel
theorem dX0_packing_64 : decode cX0_packing 64 = .ok (.invokevirtual 90, 3) := by decide +kernel
theorem dX0_packing_67 : decode cX0_packing 67 = .ok (.iload_n 3, 1) := by decide +kernel
theorem dX0_packing_68 : decode cX0_packing 68 = .ok (.invokevirtual 94, 3) := by decide +kernel
theorem dX0_packing_71 : decode cX0_packing 71 = .ok (.iinc 4 1, 3) := by decide +kernel
theorem dX0_packing_74 : decode cX0_packing 74 = .ok (.goto (-35), 3) := by decide +kernel
theorem dX0_packing_77 : decode cX0_packing 77 = .ok (.aload_n 0, 1) := by decide +kernel
theorem dX0_packing_78 : decode cX0_packing 78 = .ok (.getfield 21, 3) := by decide +kernel
theorem dX0_packing_81 : decode cX0_packing 81 = .ok (.iload_n 3, 1) := by decide +kernel
theorem dX0_packing_82 : decode cX0_packing 82 = .ok (.iaload, 1) := by decide +kernel
theorem dX0_packing_83 : decode cX0_packing 83 = .ok (.ldc 80, 2) := by decide +kernel
theorem dX0_packing_85 : decode cX0_packing 85 = .ok (.if_icmp .ge 12, 3) := by decide +kernel
theorem dX0_packing_88 : decode cX0_packing 88 = .ok (.aload_n 0, 1) := by decide +kernel
theorem dX0_packing_89 : decode cX0_packing 89 = .ok (.getfield 21, 3) := by decide +kernel
theorem dX0_packing_92 : decode cX0_packing 92 = .ok (.iload_n 3, 1) := by decide +kernel
theorem dX0_packing_93 : decode cX0_packing 93 = .ok (.iaload, 1) := by decide +kernel
theorem dX0_packing_94 : decode cX0_packing 94 = .ok (.goto 4, 3) := by decide +kernel
theorem dX0_packing_97 : decode cX0_packing 97 = .ok (.iconst (-1), 1) := by decide +kernel
theorem dX0_packing_98 : decode cX0_packing 98 = .ok (.ireturn, 1) := by decide +kernel
theorem dX0_roomWithout_0 : decode cX0_roomWithout 0 = .ok (.aload_n 1, 1) := by decide +kernel
theorem dX0_roomWithout_1 : decode cX0_roomWithout 1 = .ok (.iload_n 2, 1) := by decide +kernel
theorem dX0_roomWithout_2 : decode cX0_roomWithout 2 = .ok (.invokevirtual 98, 3) := by decide +kernel
theorem dX0_roomWithout_5 : decode cX0_roomWithout 5 = .ok (.istore_n 3, 1) := by decide +kernel
theorem dX0_roomWithout_6 : decode cX0_roomWithout 6 = .ok (.iconst 0, 1) := by decide +kernel
theorem dX0_roomWithout_7 : decode cX0_roomWithout 7 = .ok (.istore 4, 2) := by decide +kernel
theorem dX0_roomWithout_9 : decode cX0_roomWithout 9 = .ok (.iload 4, 2) := by decide +kernel
theorem dX0_roomWithout_11 : decode cX0_roomWithout 11 = .ok (.aload_n 0, 1) := by decide +kernel
theorem dX0_roomWithout_12 : decode cX0_roomWithout 12 = .ok (.getfield 33, 3) := by decide +kernel
theorem dX0_roomWithout_15 : decode cX0_roomWithout 15 = .ok (.if_icmp .ge 35, 3) := by decide +kernel
theorem dX0_roomWithout_18 : decode cX0_roomWithout 18 = .ok (.aload_n 1, 1) := by decide +kernel
theorem dX0_roomWithout_19 : decode cX0_roomWithout 19 = .ok (.getfield 101, 3) := by decide +kernel
theorem dX0_roomWithout_22 : decode cX0_roomWithout 22 = .ok (.aload_n 0, 1) := by decide +kernel
theorem dX0_roomWithout_23 : decode cX0_roomWithout 23 = .ok (.getfield 9, 3) := by decide +kernel
theorem dX0_roomWithout_26 : decode cX0_roomWithout 26 = .ok (.iload 4, 2) := by decide +kernel
theorem dX0_roomWithout_28 : decode cX0_roomWithout 28 = .ok (.iaload, 1) := by decide +kernel
theorem dX0_roomWithout_29 : decode cX0_roomWithout 29 = .ok (.iaload, 1) := by decide +kernel
theorem dX0_roomWithout_30 : decode cX0_roomWithout 30 = .ok (.iload_n 2, 1) := by decide +kernel
theorem dX0_roomWithout_31 : decode cX0_roomWithout 31 = .ok (.if_icmp .ne 13, 3) := by decide +kernel
theorem dX0_roomWithout_34 : decode cX0_roomWithout 34 = .ok (.iload_n 3, 1) := by decide +kernel
theorem dX0_roomWithout_35 : decode cX0_roomWithout 35 = .ok (.aload_n 0, 1) := by decide +kernel
theorem dX0_roomWithout_36 : decode cX0_roomWithout 36 = .ok (.getfield 15, 3) := by decide +kernel
theorem dX0_roomWithout_39 : decode cX0_roomWithout 39 = .ok (.iload 4, 2) := by decide +kernel
theorem dX0_roomWithout_41 : decode cX0_roomWithout 41 = .ok (.iaload, 1) := by decide +kernel
theorem dX0_roomWithout_42 : decode cX0_roomWithout 42 = .ok (.iadd, 1) := by decide +kernel
theorem dX0_roomWithout_43 : decode cX0_roomWithout 43 = .ok (.istore_n 3, 1) := by decide +kernel
theorem dX0_roomWithout_44 : decode cX0_roomWithout 44 = .ok (.iinc 4 1, 3) := by decide +kernel
theorem dX0_roomWithout_47 : decode cX0_roomWithout 47 = .ok (.goto (-38), 3) := by decide +kernel
theorem dX0_roomWithout_50 : decode cX0_roomWithout 50 = .ok (.iload_n 3, 1) := by decide +kernel
theorem dX0_roomWithout_51 : decode cX0_roomWithout 51 = .ok (.ireturn, 1) := by decide +kernel
theorem dX0_packInto_0 : decode cX0_packInto 0 = .ok (.iload_n 3, 1) := by decide +kernel
theorem dX0_packInto_1 : decode cX0_packInto 1 = .ok (.istore 4, 2) := by decide +kernel
theorem dX0_packInto_3 : decode cX0_packInto 3 = .ok (.iload 4, 2) := by decide +kernel
theorem dX0_packInto_5 : decode cX0_packInto 5 = .ok (.ifCond .le 70, 3) := by decide +kernel
theorem dX0_packInto_8 : decode cX0_packInto 8 = .ok (.iload 4, 2) := by decide +kernel
theorem dX0_packInto_10 : decode cX0_packInto 10 = .ok (.istore 5, 2) := by decide +kernel
theorem dX0_packInto_12 : decode cX0_packInto 12 = .ok (.iload 5, 2) := by decide +kernel
theorem dX0_packInto_14 : decode cX0_packInto 14 = .ok (.ifCond .le 55, 3) := by decide +kernel
theorem dX0_packInto_17 : decode cX0_packInto 17 = .ok (.aload_n 0, 1) := by decide +kernel
theorem dX0_packInto_18 : decode cX0_packInto 18 = .ok (.getfield 18, 3) := by decide +kernel
theorem dX0_packInto_21 : decode cX0_packInto 21 = .ok (.iload 5, 2) := by decide +kernel
theorem dX0_packInto_23 : decode cX0_packInto 23 = .ok (.iaload, 1) := by decide +kernel
theorem dX0_packInto_24 : decode cX0_packInto 24 = .ok (.iload_n 2, 1) := by decide +kernel
theorem dX0_packInto_25 : decode cX0_packInto 25 = .ok (.if_icmp .gt 32, 3) := by decide +kernel
theorem dX0_packInto_28 : decode cX0_packInto 28 = .ok (.aload_n 0, 1) := by decide +kernel
theorem dX0_packInto_29 : decode cX0_packInto 29 = .ok (.getfield 21, 3) := by decide +kernel
theorem dX0_packInto_32 : decode cX0_packInto 32 = .ok (.iload 4, 2) := by decide +kernel
theorem dX0_packInto_34 : decode cX0_packInto 34 = .ok (.aload_n 0, 1) := by decide +kernel
theorem dX0_packInto_35 : decode cX0_packInto 35 = .ok (.getfield 21, 3) := by decide +kernel
theorem dX0_packInto_38 : decode cX0_packInto 38 = .ok (.iload 4, 2) := by decide +kernel
theorem dX0_packInto_40 : decode cX0_packInto 40 = .ok (.iaload, 1) := by decide +kernel
theorem dX0_packInto_41 : decode cX0_packInto 41 = .ok (.aload_n 0, 1) := by decide +kernel
theorem dX0_packInto_42 : decode cX0_packInto 42 = .ok (.getfield 21, 3) := by decide +kernel
theorem dX0_packInto_45 : decode cX0_packInto 45 = .ok (.iload 4, 2) := by decide +kernel
theorem dX0_packInto_47 : decode cX0_packInto 47 = .ok (.iload 5, 2) := by decide +kernel
theorem dX0_packInto_49 : decode cX0_packInto 49 = .ok (.ixor, 1) := by decide +kernel
theorem dX0_packInto_50 : decode cX0_packInto 50 = .ok (.iaload, 1) := by decide +kernel
theorem dX0_packInto_51 : decode cX0_packInto 51 = .ok (.iload_n 1, 1) := by decide +kernel
theorem dX0_packInto_52 : decode cX0_packInto 52 = .ok (.iadd, 1) := by decide +kernel
theorem dX0_packInto_53 : decode cX0_packInto 53 = .ok (.invokestatic 104, 3) := by decide +kernel
theorem dX0_packInto_56 : decode cX0_packInto 56 = .ok (.iastore, 1) := by decide +kernel
theorem dX0_packInto_57 : decode cX0_packInto 57 = .ok (.iload 5, 2) := by decide +kernel
theorem dX0_packInto_59 : decode cX0_packInto 59 = .ok (.iconst 1, 1) := by decide +kernel
theorem dX0_packInto_60 : decode cX0_packInto 60 = .ok (.isub, 1) := by decide +kernel
theorem dX0_packInto_61 : decode cX0_packInto 61 = .ok (.iload 4, 2) := by decide +kernel
theorem dX0_packInto_63 : decode cX0_packInto 63 = .ok (.iand, 1) := by decide +kernel
theorem dX0_packInto_64 : decode cX0_packInto 64 = .ok (.istore 5, 2) := by decide +kernel
theorem dX0_packInto_66 : decode cX0_packInto 66 = .ok (.goto (-54), 3) := by decide +kernel
theorem dX0_packInto_69 : decode cX0_packInto 69 = .ok (.iinc 4 (-1), 3) := by decide +kernel
theorem dX0_packInto_72 : decode cX0_packInto 72 = .ok (.goto (-69), 3) := by decide +kernel
theorem dX0_packInto_75 : decode cX0_packInto 75 = .ok (.return_, 1) := by decide +kernel
theorem dX0_fairest_0 : decode cX0_fairest 0 = .ok (.aload_n 0, 1) := by decide +kernel
theorem dX0_fairest_1 : decode cX0_fairest 1 = .ok (.aload_n 1, 1) := by decide +kernel
theorem dX0_fairest_2 : decode cX0_fairest 2 = .ok (.iload_n 2, 1) := by decide +kernel
theorem dX0_fairest_3 : decode cX0_fairest 3 = .ok (.iconst 1, 1) := by decide +kernel
theorem dX0_fairest_4 : decode cX0_fairest 4 = .ok (.invokevirtual 58, 3) := by decide +kernel
theorem dX0_fairest_7 : decode cX0_fairest 7 = .ok (.aload_n 0, 1) := by decide +kernel
theorem dX0_fairest_8 : decode cX0_fairest 8 = .ok (.getfield 24, 3) := by decide +kernel
theorem dX0_fairest_11 : decode cX0_fairest 11 = .ok (.iconst 0, 1) := by decide +kernel
theorem dX0_fairest_12 : decode cX0_fairest 12 = .ok (.invokestatic 81, 3) := by decide +kernel
theorem dX0_fairest_15 : decode cX0_fairest 15 = .ok (.aload_n 0, 1) := by decide +kernel
theorem dX0_fairest_16 : decode cX0_fairest 16 = .ok (.ldc 80, 2) := by decide +kernel
theorem dX0_fairest_18 : decode cX0_fairest 18 = .ok (.putfield 110, 3) := by decide +kernel
theorem dX0_fairest_21 : decode cX0_fairest 21 = .ok (.aload_n 0, 1) := by decide +kernel
theorem dX0_fairest_22 : decode cX0_fairest 22 = .ok (.iconst 0, 1) := by decide +kernel
theorem dX0_fairest_23 : decode cX0_fairest 23 = .ok (.iconst 0, 1) := by decide +kernel
theorem dX0_fairest_24 : decode cX0_fairest 24 = .ok (.iload_n 3, 1) := by decide +kernel
theorem dX0_fairest_25 : decode cX0_fairest 25 = .ok (.invokevirtual 113, 3) := by decide +kernel
theorem dX0_fairest_28 : decode cX0_fairest 28 = .ok (.aload_n 0, 1) := by decide +kernel
theorem dX0_fairest_29 : decode cX0_fairest 29 = .ok (.getfield 110, 3) := by decide +kernel
theorem dX0_fairest_32 : decode cX0_fairest 32 = .ok (.ireturn, 1) := by decide +kernel
theorem dX0_divide_0 : decode cX0_divide 0 = .ok (.iload_n 1, 1) := by decide +kernel
theorem dX0_divide_1 : decode cX0_divide 1 = .ok (.aload_n 0, 1) := by decide +kernel
theorem dX0_divide_2 : decode cX0_divide 2 = .ok (.getfield 33, 3) := by decide +kernel
theorem dX0_divide_5 : decode cX0_divide 5 = .ok (.if_icmp .lt 9, 3) := by decide +kernel
theorem dX0_divide_8 : decode cX0_divide 8 = .ok (.aload_n 0, 1) := by decide +kernel
theorem dX0_divide_9 : decode cX0_divide 9 = .ok (.iload_n 3, 1) := by decide +kernel
theorem dX0_divide_10 : decode cX0_divide 10 = .ok (.invokevirtual 116, 3) := by decide +kernel
theorem dX0_divide_13 : decode cX0_divide 13 = .ok (.return_, 1) := by decide +kernel
theorem dX0_divide_14 : decode cX0_divide 14 = .ok (.iconst 0, 1) := by decide +kernel
theorem dX0_divide_15 : decode cX0_divide 15 = .ok (.istore 4, 2) := by decide +kernel
theorem dX0_divide_17 : decode cX0_divide 17 = .ok (.iload 4, 2) := by decide +kernel
theorem dX0_divide_19 : decode cX0_divide 19 = .ok (.iload_n 3, 1) := by decide +kernel
theorem dX0_divide_20 : decode cX0_divide 20 = .ok (.if_icmp .ge 76, 3) := by decide +kernel
theorem dX0_divide_23 : decode cX0_divide 23 = .ok (.iload 4, 2) := by decide +kernel
theorem dX0_divide_25 : decode cX0_divide 25 = .ok (.iload_n 2, 1) := by decide +kernel
theorem dX0_divide_26 : decode cX0_divide 26 = .ok (.if_icmp .gt 70, 3) := by decide +kernel
theorem dX0_divide_29 : decode cX0_divide 29 = .ok (.aload_n 0, 1) := by decide +kernel
theorem dX0_divide_30 : decode cX0_divide 30 = .ok (.getfield 27, 3) := by decide +kernel
theorem dX0_divide_33 : decode cX0_divide 33 = .ok (.iload_n 1, 1) := by decide +kernel
theorem dX0_divide_34 : decode cX0_divide 34 = .ok (.iload 4, 2) := by decide +kernel
theorem dX0_divide_36 : decode cX0_divide 36 = .ok (.iastore, 1) := by decide +kernel
theorem dX0_divide_37 : decode cX0_divide 37 = .ok (.aload_n 0, 1) := by decide +kernel
theorem dX0_divide_38 : decode cX0_divide 38 = .ok (.getfield 24, 3) := by decide +kernel
theorem dX0_divide_41 : decode cX0_divide 41 = .ok (.iload 4, 2) := by decide +kernel
theorem dX0_divide_43 : decode cX0_divide 43 = .ok (.dup2, 1) := by decide +kernel
theorem dX0_divide_44 : decode cX0_divide 44 = .ok (.iaload, 1) := by decide +kernel
theorem dX0_divide_45 : decode cX0_divide 45 = .ok (.aload_n 0, 1) := by decide +kernel
theorem dX0_divide_46 : decode cX0_divide 46 = .ok (.getfield 15, 3) := by decide +kernel
theorem dX0_divide_49 : decode cX0_divide 49 = .ok (.iload_n 1, 1) := by decide +kernel
theorem dX0_divide_50 : decode cX0_divide 50 = .ok (.iaload, 1) := by decide +kernel
theorem dX0_divide_51 : decode cX0_divide 51 = .ok (.iadd, 1) := by decide +kernel
theorem dX0_divide_52 : decode cX0_divide 52 = .ok (.iastore, 1) := by decide +kernel
theorem dX0_divide_53 : decode cX0_divide 53 = .ok (.aload_n 0, 1) := by decide +kernel
theorem dX0_divide_54 : decode cX0_divide 54 = .ok (.iload_n 1, 1) := by decide +kernel
theorem dX0_divide_55 : decode cX0_divide 55 = .ok (.iconst 1, 1) := by decide +kernel
theorem dX0_divide_56 : decode cX0_divide 56 = .ok (.iadd, 1) := by decide +kernel
theorem dX0_divide_57 : decode cX0_divide 57 = .ok (.iload 4, 2) := by decide +kernel
theorem dX0_divide_59 : decode cX0_divide 59 = .ok (.iload_n 2, 1) := by decide +kernel
theorem dX0_divide_60 : decode cX0_divide 60 = .ok (.if_icmp .ne 9, 3) := by decide +kernel
theorem dX0_divide_63 : decode cX0_divide 63 = .ok (.iload_n 2, 1) := by decide +kernel
theorem dX0_divide_64 : decode cX0_divide 64 = .ok (.iconst 1, 1) := by decide +kernel
theorem dX0_divide_65 : decode cX0_divide 65 = .ok (.iadd, 1) := by decide +kernel
theorem dX0_divide_66 : decode cX0_divide 66 = .ok (.goto 4, 3) := by decide +kernel
theorem dX0_divide_69 : decode cX0_divide 69 = .ok (.iload_n 2, 1) := by decide +kernel
theorem dX0_divide_70 : decode cX0_divide 70 = .ok (.iload_n 3, 1) := by decide +kernel
theorem dX0_divide_71 : decode cX0_divide 71 = .ok (.invokevirtual 113, 3) := by decide +kernel
theorem dX0_divide_74 : decode cX0_divide 74 = .ok (.aload_n 0, 1) := by decide +kernel
theorem dX0_divide_75 : decode cX0_divide 75 = .ok (.getfield 24, 3) := by decide +kernel
theorem dX0_divide_78 : decode cX0_divide 78 = .ok (.iload 4, 2) := by decide +kernel
theorem dX0_divide_80 : decode cX0_divide 80 = .ok (.dup2, 1) := by decide +kernel
theorem dX0_divide_81 : decode cX0_divide 81 = .ok (.iaload, 1) := by decide +kernel
theorem dX0_divide_82 : decode cX0_divide 82 = .ok (.aload_n 0, 1) := by decide +kernel
theorem dX0_divide_83 : decode cX0_divide 83 = .ok (.getfield 15, 3) := by decide +kernel
theorem dX0_divide_86 : decode cX0_divide 86 = .ok (.iload_n 1, 1) := by decide +kernel
theorem dX0_divide_87 : decode cX0_divide 87 = .ok (.iaload, 1) := by decide +kernel
theorem dX0_divide_88 : decode cX0_divide 88 = .ok (.isub, 1) := by decide +kernel
theorem dX0_divide_89 : decode cX0_divide 89 = .ok (.iastore, 1) := by decide +kernel
theorem dX0_divide_90 : decode cX0_divide 90 = .ok (.iinc 4 1, 3) := by decide +kernel
theorem dX0_divide_93 : decode cX0_divide 93 = .ok (.goto (-76), 3) := by decide +kernel
theorem dX0_divide_96 : decode cX0_divide 96 = .ok (.return_, 1) := by decide +kernel
theorem dX0_keepIfFairer_0 : decode cX0_keepIfFairer 0 = .ok (.aload_n 0, 1) := by decide +kernel
theorem dX0_keepIfFairer_1 : decode cX0_keepIfFairer 1 = .ok (.getfield 24, 3) := by decide +kernel
theorem dX0_keepIfFairer_4 : decode cX0_keepIfFairer 4 = .ok (.iconst 0, 1) := by decide +kernel
theorem dX0_keepIfFairer_5 : decode cX0_keepIfFairer 5 = .ok (.iaload, 1) := by decide +kernel
theorem dX0_keepIfFairer_6 : decode cX0_keepIfFairer 6 = .ok (.aload_n 0, 1) := by decide +kernel
theorem dX0_keepIfFairer_7 : decode cX0_keepIfFairer 7 = .ok (.getfield 24, 3) := by decide +kernel
theorem dX0_keepIfFairer_10 : decode cX0_keepIfFairer 10 = .ok (.iconst 1, 1) := by decide +kernel
theorem dX0_keepIfFairer_11 : decode cX0_keepIfFairer 11 = .ok (.iaload, 1) := by decide +kernel
theorem dX0_keepIfFairer_12 : decode cX0_keepIfFairer 12 = .ok (.invokestatic 104, 3) := by decide +kernel
theorem dX0_keepIfFairer_15 : decode cX0_keepIfFairer 15 = .ok (.istore_n 2, 1) := by decide +kernel
theorem dX0_keepIfFairer_16 : decode cX0_keepIfFairer 16 = .ok (.aload_n 0, 1) := by decide +kernel
theorem dX0_keepIfFairer_17 : decode cX0_keepIfFairer 17 = .ok (.getfield 24, 3) := by decide +kernel
theorem dX0_keepIfFairer_20 : decode cX0_keepIfFairer 20 = .ok (.iconst 0, 1) := by decide +kernel
theorem dX0_keepIfFairer_21 : decode cX0_keepIfFairer 21 = .ok (.iaload, 1) := by decide +kernel
theorem dX0_keepIfFairer_22 : decode cX0_keepIfFairer 22 = .ok (.aload_n 0, 1) := by decide +kernel
theorem dX0_keepIfFairer_23 : decode cX0_keepIfFairer 23 = .ok (.getfield 24, 3) := by decide +kernel
theorem dX0_keepIfFairer_26 : decode cX0_keepIfFairer 26 = .ok (.iconst 1, 1) := by decide +kernel
theorem dX0_keepIfFairer_27 : decode cX0_keepIfFairer 27 = .ok (.iaload, 1) := by decide +kernel
theorem dX0_keepIfFairer_28 : decode cX0_keepIfFairer 28 = .ok (.invokestatic 120, 3) := by decide +kernel
theorem dX0_keepIfFairer_31 : decode cX0_keepIfFairer 31 = .ok (.istore_n 3, 1) := by decide +kernel
theorem dX0_keepIfFairer_32 : decode cX0_keepIfFairer 32 = .ok (.iload_n 1, 1) := by decide +kernel
theorem dX0_keepIfFairer_33 : decode cX0_keepIfFairer 33 = .ok (.iconst 3, 1) := by decide +kernel
theorem dX0_keepIfFairer_34 : decode cX0_keepIfFairer 34 = .ok (.if_icmp .ne 25, 3) := by decide +kernel
theorem dX0_keepIfFairer_37 : decode cX0_keepIfFairer 37 = .ok (.iload_n 2, 1) := by decide +kernel
theorem dX0_keepIfFairer_38 : decode cX0_keepIfFairer 38 = .ok (.aload_n 0, 1) := by decide +kernel
theorem dX0_keepIfFairer_39 : decode cX0_keepIfFairer 39 = .ok (.getfield 24, 3) := by decide +kernel
theorem dX0_keepIfFairer_42 : decode cX0_keepIfFairer 42 = .ok (.iconst 2, 1) := by decide +kernel
theorem dX0_keepIfFairer_43 : decode cX0_keepIfFairer 43 = .ok (.iaload, 1) := by decide +kernel
theorem dX0_keepIfFairer_44 : decode cX0_keepIfFairer 44 = .ok (.invokestatic 104, 3) := by decide +kernel
theorem dX0_keepIfFairer_47 : decode cX0_keepIfFairer 47 = .ok (.istore_n 2, 1) := by decide +kernel
theorem dX0_keepIfFairer_48 : decode cX0_keepIfFairer 48 = .ok (.iload_n 3, 1) := by decide +kernel
theorem dX0_keepIfFairer_49 : decode cX0_keepIfFairer 49 = .ok (.aload_n 0, 1) := by decide +kernel
theorem dX0_keepIfFairer_50 : decode cX0_keepIfFairer 50 = .ok (.getfield 24, 3) := by decide +kernel
theorem dX0_keepIfFairer_53 : decode cX0_keepIfFairer 53 = .ok (.iconst 2, 1) := by decide +kernel
theorem dX0_keepIfFairer_54 : decode cX0_keepIfFairer 54 = .ok (.iaload, 1) := by decide +kernel
theorem dX0_keepIfFairer_55 : decode cX0_keepIfFairer 55 = .ok (.invokestatic 120, 3) := by decide +kernel
theorem dX0_keepIfFairer_58 : decode cX0_keepIfFairer 58 = .ok (.istore_n 3, 1) := by decide +kernel
theorem dX0_keepIfFairer_59 : decode cX0_keepIfFairer 59 = .ok (.iload_n 3, 1) := by decide +kernel
theorem dX0_keepIfFairer_60 : decode cX0_keepIfFairer 60 = .ok (.iload_n 2, 1) := by decide +kernel
theorem dX0_keepIfFairer_61 : decode cX0_keepIfFairer 61 = .ok (.isub, 1) := by decide +kernel
theorem dX0_keepIfFairer_62 : decode cX0_keepIfFairer 62 = .ok (.aload_n 0, 1) := by decide +kernel
theorem dX0_keepIfFairer_63 : decode cX0_keepIfFairer 63 = .ok (.getfield 110, 3) := by decide +kernel
theorem dX0_keepIfFairer_66 : decode cX0_keepIfFairer 66 = .ok (.if_icmp .ge 25, 3) := by decide +kernel
theorem dX0_keepIfFairer_69 : decode cX0_keepIfFairer 69 = .ok (.aload_n 0, 1) := by decide +kernel
theorem dX0_keepIfFairer_70 : decode cX0_keepIfFairer 70 = .ok (.iload_n 3, 1) := by decide +kernel
theorem dX0_keepIfFairer_71 : decode cX0_keepIfFairer 71 = .ok (.iload_n 2, 1) := by decide +kernel
theorem dX0_keepIfFairer_72 : decode cX0_keepIfFairer 72 = .ok (.isub, 1) := by decide +kernel
theorem dX0_keepIfFairer_73 : decode cX0_keepIfFairer 73 = .ok (.putfield 110, 3) := by decide +kernel
theorem dX0_keepIfFairer_76 : decode cX0_keepIfFairer 76 = .ok (.aload_n 0, 1) := by decide +kernel
theorem dX0_keepIfFairer_77 : decode cX0_keepIfFairer 77 = .ok (.getfield 27, 3) := by decide +kernel
theorem dX0_keepIfFairer_80 : decode cX0_keepIfFairer 80 = .ok (.iconst 0, 1) := by decide +kernel
theorem dX0_keepIfFairer_81 : decode cX0_keepIfFairer 81 = .ok (.aload_n 0, 1) := by decide +kernel
theorem dX0_keepIfFairer_82 : decode cX0_keepIfFairer 82 = .ok (.getfield 30, 3) := by decide +kernel
theorem dX0_keepIfFairer_85 : decode cX0_keepIfFairer 85 = .ok (.iconst 0, 1) := by decide +kernel
theorem dX0_keepIfFairer_86 : decode cX0_keepIfFairer 86 = .ok (.bipush 8, 2) := by decide +kernel
theorem dX0_keepIfFairer_88 : decode cX0_keepIfFairer 88 = .ok (.invokestatic 123, 3) := by decide +kernel
theorem dX0_keepIfFairer_91 : decode cX0_keepIfFairer 91 = .ok (.return_, 1) := by decide +kernel
theorem dX0_heirOf_0 : decode cX0_heirOf 0 = .ok (.iconst 0, 1) := by decide +kernel
theorem dX0_heirOf_1 : decode cX0_heirOf 1 = .ok (.istore_n 2, 1) := by decide +kernel
theorem dX0_heirOf_2 : decode cX0_heirOf 2 = .ok (.iload_n 2, 1) := by decide +kernel
theorem dX0_heirOf_3 : decode cX0_heirOf 3 = .ok (.aload_n 0, 1) := by decide +kernel
theorem dX0_heirOf_4 : decode cX0_heirOf 4 = .ok (.getfield 33, 3) := by decide +kernel
theorem dX0_heirOf_7 : decode cX0_heirOf 7 = .ok (.if_icmp .ge 26, 3) := by decide +kernel
theorem dX0_heirOf_10 : decode cX0_heirOf 10 = .ok (.aload_n 0, 1) := by decide +kernel
theorem dX0_heirOf_11 : decode cX0_heirOf 11 = .ok (.getfield 9, 3) := by decide +kernel
theorem dX0_heirOf_14 : decode cX0_heirOf 14 = .ok (.iload_n 2, 1) := by decide +kernel
theorem dX0_heirOf_15 : decode cX0_heirOf 15 = .ok (.iaload, 1) := by decide +kernel
theorem dX0_heirOf_16 : decode cX0_heirOf 16 = .ok (.iload_n 1, 1) := by decide +kernel
theorem dX0_heirOf_17 : decode cX0_heirOf 17 = .ok (.if_icmp .ne 10, 3) := by decide +kernel
theorem dX0_heirOf_20 : decode cX0_heirOf 20 = .ok (.aload_n 0, 1) := by decide +kernel
theorem dX0_heirOf_21 : decode cX0_heirOf 21 = .ok (.getfield 30, 3) := by decide +kernel
theorem dX0_heirOf_24 : decode cX0_heirOf 24 = .ok (.iload_n 2, 1) := by decide +kernel
theorem dX0_heirOf_25 : decode cX0_heirOf 25 = .ok (.iaload, 1) := by decide +kernel
theorem dX0_heirOf_26 : decode cX0_heirOf 26 = .ok (.ireturn, 1) := by decide +kernel
theorem dX0_heirOf_27 : decode cX0_heirOf 27 = .ok (.iinc 2 1, 3) := by decide +kernel
theorem dX0_heirOf_30 : decode cX0_heirOf 30 = .ok (.goto (-28), 3) := by decide +kernel
theorem dX0_heirOf_33 : decode cX0_heirOf 33 = .ok (.iconst (-1), 1) := by decide +kernel
theorem dX0_heirOf_34 : decode cX0_heirOf 34 = .ok (.ireturn, 1) := by decide +kernel
theorem dX0_payments_0 : decode cX0_payments 0 = .ok (.aload_n 0, 1) := by decide +kernel
theorem dX0_payments_1 : decode cX0_payments 1 = .ok (.iconst 0, 1) := by decide +kernel
theorem dX0_payments_2 : decode cX0_payments 2 = .ok (.putfield 33, 3) := by decide +kernel
theorem dX0_payments_5 : decode cX0_payments 5 = .ok (.iconst 0, 1) := by decide +kernel
theorem dX0_payments_6 : decode cX0_payments 6 = .ok (.istore_n 2, 1) := by decide +kernel
theorem dX0_payments_7 : decode cX0_payments 7 = .ok (.iload_n 2, 1) := by decide +kernel
theorem dX0_payments_8 : decode cX0_payments 8 = .ok (.aload_n 1, 1) := by decide +kernel
theorem dX0_payments_9 : decode cX0_payments 9 = .ok (.getfield 37, 3) := by decide +kernel
theorem dX0_payments_12 : decode cX0_payments 12 = .ok (.getfield 129, 3) := by decide +kernel
theorem dX0_payments_15 : decode cX0_payments 15 = .ok (.if_icmp .ge 41, 3) := by decide +kernel
theorem dX0_payments_18 : decode cX0_payments 18 = .ok (.aload_n 1, 1) := by decide +kernel
theorem dX0_payments_19 : decode cX0_payments 19 = .ok (.iload_n 2, 1) := by decide +kernel
theorem dX0_payments_20 : decode cX0_payments 20 = .ok (.invokevirtual 132, 3) := by decide +kernel
theorem dX0_payments_23 : decode cX0_payments 23 = .ok (.ifCond .eq 27, 3) := by decide +kernel
theorem dX0_payments_26 : decode cX0_payments 26 = .ok (.aload_n 0, 1) := by decide +kernel
theorem dX0_payments_27 : decode cX0_payments 27 = .ok (.getfield 15, 3) := by decide +kernel
theorem dX0_payments_30 : decode cX0_payments 30 = .ok (.aload_n 0, 1) := by decide +kernel
theorem dX0_payments_31 : decode cX0_payments 31 = .ok (.getfield 33, 3) := by decide +kernel
theorem dX0_payments_34 : decode cX0_payments 34 = .ok (.aload_n 1, 1) := by decide +kernel
theorem dX0_payments_35 : decode cX0_payments 35 = .ok (.iload_n 2, 1) := by decide +kernel
theorem dX0_payments_36 : decode cX0_payments 36 = .ok (.invokevirtual 132, 3) := by decide +kernel
theorem dX0_payments_39 : decode cX0_payments 39 = .ok (.iastore, 1) := by decide +kernel
theorem dX0_payments_40 : decode cX0_payments 40 = .ok (.aload_n 0, 1) := by decide +kernel
theorem dX0_payments_41 : decode cX0_payments 41 = .ok (.dup, 1) := by decide +kernel
theorem dX0_payments_42 : decode cX0_payments 42 = .ok (.getfield 33, 3) := by decide +kernel
theorem dX0_payments_45 : decode cX0_payments 45 = .ok (.iconst 1, 1) := by decide +kernel
theorem dX0_payments_46 : decode cX0_payments 46 = .ok (.iadd, 1) := by decide +kernel
theorem dX0_payments_47 : decode cX0_payments 47 = .ok (.putfield 33, 3) := by decide +kernel
theorem dX0_payments_50 : decode cX0_payments 50 = .ok (.iinc 2 1, 3) := by decide +kernel
theorem dX0_payments_53 : decode cX0_payments 53 = .ok (.goto (-46), 3) := by decide +kernel
theorem dX0_payments_56 : decode cX0_payments 56 = .ok (.aload_n 0, 1) := by decide +kernel
theorem dX0_payments_57 : decode cX0_payments 57 = .ok (.invokevirtual 62, 3) := by decide +kernel
theorem dX0_payments_60 : decode cX0_payments 60 = .ok (.aload_n 0, 1) := by decide +kernel
theorem dX0_payments_61 : decode cX0_payments 61 = .ok (.getfield 21, 3) := by decide +kernel
theorem dX0_payments_64 : decode cX0_payments 64 = .ok (.iconst 0, 1) := by decide +kernel
theorem dX0_payments_65 : decode cX0_payments 65 = .ok (.iconst 0, 1) := by decide +kernel
theorem dX0_payments_66 : decode cX0_payments 66 = .ok (.iastore, 1) := by decide +kernel
theorem dX0_payments_67 : decode cX0_payments 67 = .ok (.iconst 1, 1) := by decide +kernel
theorem dX0_payments_68 : decode cX0_payments 68 = .ok (.istore_n 2, 1) := by decide +kernel
theorem dX0_payments_69 : decode cX0_payments 69 = .ok (.iload_n 2, 1) := by decide +kernel
theorem dX0_payments_70 : decode cX0_payments 70 = .ok (.iconst 1, 1) := by decide +kernel
theorem dX0_payments_71 : decode cX0_payments 71 = .ok (.aload_n 0, 1) := by decide +kernel
theorem dX0_payments_72 : decode cX0_payments 72 = .ok (.getfield 33, 3) := by decide +kernel
theorem dX0_payments_75 : decode cX0_payments 75 = .ok (.ishl, 1) := by decide +kernel
theorem dX0_payments_76 : decode cX0_payments 76 = .ok (.if_icmp .ge 35, 3) := by decide +kernel
theorem dX0_payments_79 : decode cX0_payments 79 = .ok (.aload_n 0, 1) := by decide +kernel
theorem dX0_payments_80 : decode cX0_payments 80 = .ok (.getfield 21, 3) := by decide +kernel
theorem dX0_payments_83 : decode cX0_payments 83 = .ok (.iload_n 2, 1) := by decide +kernel
theorem dX0_payments_84 : decode cX0_payments 84 = .ok (.aload_n 0, 1) := by decide +kernel
theorem dX0_payments_85 : decode cX0_payments 85 = .ok (.iload_n 2, 1) := by decide +kernel
theorem dX0_payments_86 : decode cX0_payments 86 = .ok (.invokevirtual 135, 3) := by decide +kernel
theorem dX0_payments_89 : decode cX0_payments 89 = .ok (.aload_n 0, 1) := by decide +kernel
theorem dX0_payments_90 : decode cX0_payments 90 = .ok (.getfield 18, 3) := by decide +kernel
theorem dX0_payments_93 : decode cX0_payments 93 = .ok (.iload_n 2, 1) := by decide +kernel
theorem dX0_payments_94 : decode cX0_payments 94 = .ok (.iaload, 1) := by decide +kernel
theorem dX0_payments_95 : decode cX0_payments 95 = .ok (.ifCond .ne 7, 3) := by decide +kernel
theorem dX0_payments_98 : decode cX0_payments 98 = .ok (.iconst 1, 1) := by decide +kernel
theorem dX0_payments_99 : decode cX0_payments 99 = .ok (.goto 4, 3) := by decide +kernel
theorem dX0_payments_102 : decode cX0_payments 102 = .ok (.iconst 0, 1) := by decide +kernel
theorem dX0_payments_103 : decode cX0_payments 103 = .ok (.iadd, 1) := by decide +kernel
theorem dX0_payments_104 : decode cX0_payments 104 = .ok (.iastore, 1) := by decide +kernel
theorem dX0_payments_105 : decode cX0_payments 105 = .ok (.iinc 2 1, 3) := by decide +kernel
theorem dX0_payments_108 : decode cX0_payments 108 = .ok (.goto (-39), 3) := by decide +kernel
theorem dX0_payments_111 : decode cX0_payments 111 = .ok (.aload_n 0, 1) := by decide +kernel
theorem dX0_payments_112 : decode cX0_payments 112 = .ok (.getfield 33, 3) := by decide +kernel
theorem dX0_payments_115 : decode cX0_payments 115 = .ok (.aload_n 0, 1) := by decide +kernel
theorem dX0_payments_116 : decode cX0_payments 116 = .ok (.getfield 21, 3) := by decide +kernel
theorem dX0_payments_119 : decode cX0_payments 119 = .ok (.iconst 1, 1) := by decide +kernel
theorem dX0_payments_120 : decode cX0_payments 120 = .ok (.aload_n 0, 1) := by decide +kernel
theorem dX0_payments_121 : decode cX0_payments 121 = .ok (.getfield 33, 3) := by decide +kernel
theorem dX0_payments_124 : decode cX0_payments 124 = .ok (.ishl, 1) := by decide +kernel
theorem dX0_payments_125 : decode cX0_payments 125 = .ok (.iconst 1, 1) := by decide +kernel
theorem dX0_payments_126 : decode cX0_payments 126 = .ok (.isub, 1) := by decide +kernel
theorem dX0_payments_127 : decode cX0_payments 127 = .ok (.iaload, 1) := by decide +kernel
theorem dX0_payments_128 : decode cX0_payments 128 = .ok (.isub, 1) := by decide +kernel
theorem dX0_payments_129 : decode cX0_payments 129 = .ok (.ireturn, 1) := by decide +kernel
theorem dX0_mostGroups_0 : decode cX0_mostGroups 0 = .ok (.iconst 0, 1) := by decide +kernel
theorem dX0_mostGroups_1 : decode cX0_mostGroups 1 = .ok (.istore_n 2, 1) := by decide +kernel
theorem dX0_mostGroups_2 : decode cX0_mostGroups 2 = .ok (.iconst 0, 1) := by decide +kernel
theorem dX0_mostGroups_3 : decode cX0_mostGroups 3 = .ok (.istore_n 3, 1) := by decide +kernel
theorem dX0_mostGroups_4 : decode cX0_mostGroups 4 = .ok (.iload_n 3, 1) := by decide +kernel
theorem dX0_mostGroups_5 : decode cX0_mostGroups 5 = .ok (.aload_n 0, 1) := by decide +kernel
theorem dX0_mostGroups_6 : decode cX0_mostGroups 6 = .ok (.getfield 33, 3) := by decide +kernel
theorem dX0_mostGroups_9 : decode cX0_mostGroups 9 = .ok (.if_icmp .ge 32, 3) := by decide +kernel
theorem dX0_mostGroups_12 : decode cX0_mostGroups 12 = .ok (.iload_n 1, 1) := by decide +kernel
theorem dX0_mostGroups_13 : decode cX0_mostGroups 13 = .ok (.iconst 1, 1) := by decide +kernel
theorem dX0_mostGroups_14 : decode cX0_mostGroups 14 = .ok (.iload_n 3, 1) := by decide +kernel
theorem dX0_mostGroups_15 : decode cX0_mostGroups 15 = .ok (.ishl, 1) := by decide +kernel
theorem dX0_mostGroups_16 : decode cX0_mostGroups 16 = .ok (.iand, 1) := by decide +kernel
theorem dX0_mostGroups_17 : decode cX0_mostGroups 17 = .ok (.ifCond .eq 18, 3) := by decide +kernel
theorem dX0_mostGroups_20 : decode cX0_mostGroups 20 = .ok (.iload_n 2, 1) := by decide +kernel
theorem dX0_mostGroups_21 : decode cX0_mostGroups 21 = .ok (.aload_n 0, 1) := by decide +kernel
theorem dX0_mostGroups_22 : decode cX0_mostGroups 22 = .ok (.getfield 21, 3) := by decide +kernel
theorem dX0_mostGroups_25 : decode cX0_mostGroups 25 = .ok (.iload_n 1, 1) := by decide +kernel
theorem dX0_mostGroups_26 : decode cX0_mostGroups 26 = .ok (.iconst 1, 1) := by decide +kernel
theorem dX0_mostGroups_27 : decode cX0_mostGroups 27 = .ok (.iload_n 3, 1) := by decide +kernel
theorem dX0_mostGroups_28 : decode cX0_mostGroups 28 = .ok (.ishl, 1) := by decide +kernel
theorem dX0_mostGroups_29 : decode cX0_mostGroups 29 = .ok (.ixor, 1) := by decide +kernel
theorem dX0_mostGroups_30 : decode cX0_mostGroups 30 = .ok (.iaload, 1) := by decide +kernel
theorem dX0_mostGroups_31 : decode cX0_mostGroups 31 = .ok (.invokestatic 120, 3) := by decide +kernel
theorem dX0_mostGroups_34 : decode cX0_mostGroups 34 = .ok (.istore_n 2, 1) := by decide +kernel
theorem dX0_mostGroups_35 : decode cX0_mostGroups 35 = .ok (.iinc 3 1, 3) := by decide +kernel
theorem dX0_mostGroups_38 : decode cX0_mostGroups 38 = .ok (.goto (-34), 3) := by decide +kernel
theorem dX0_mostGroups_41 : decode cX0_mostGroups 41 = .ok (.iload_n 2, 1) := by decide +kernel
theorem dX0_mostGroups_42 : decode cX0_mostGroups 42 = .ok (.ireturn, 1) := by decide +kernel
theorem dX1_init_0 : decode cX1_init 0 = .ok (.aload_n 0, 1) := by decide +kernel
theorem dX1_init_1 : decode cX1_init 1 = .ok (.invokespecial 1, 3) := by decide +kernel
theorem dX1_init_4 : decode cX1_init 4 = .ok (.aload_n 0, 1) := by decide +kernel
theorem dX1_init_5 : decode cX1_init 5 = .ok (.bipush 20, 2) := by decide +kernel
theorem dX1_init_7 : decode cX1_init 7 = .ok (.bipush 61, 2) := by decide +kernel
theorem dX1_init_9 : decode cX1_init 9 = .ok (.multianewarray 11 2, 4) := by decide +kernel
theorem dX1_init_13 : decode cX1_init 13 = .ok (.putfield 13, 3) := by decide +kernel
theorem dX1_init_16 : decode cX1_init 16 = .ok (.aload_n 0, 1) := by decide +kernel
theorem dX1_init_17 : decode cX1_init 17 = .ok (.bipush 20, 2) := by decide +kernel
theorem dX1_init_19 : decode cX1_init 19 = .ok (.newarray .int, 2) := by decide +kernel
theorem dX1_init_21 : decode cX1_init 21 = .ok (.putfield 16, 3) := by decide +kernel
theorem dX1_init_24 : decode cX1_init 24 = .ok (.return_, 1) := by decide +kernel
theorem dX1_forget_0 : decode cX1_forget 0 = .ok (.aload_n 0, 1) := by decide +kernel
theorem dX1_forget_1 : decode cX1_forget 1 = .ok (.iconst 0, 1) := by decide +kernel
theorem dX1_forget_2 : decode cX1_forget 2 = .ok (.putfield 20, 3) := by decide +kernel
theorem dX1_forget_5 : decode cX1_forget 5 = .ok (.return_, 1) := by decide +kernel
theorem dX1_push_0 : decode cX1_push 0 = .ok (.aload_n 1, 1) := by decide +kernel
theorem dX1_push_1 : decode cX1_push 1 = .ok (.aload_n 0, 1) := by decide +kernel
theorem dX1_push_2 : decode cX1_push 2 = .ok (.getfield 13, 3) := by decide +kernel
theorem dX1_push_5 : decode cX1_push 5 = .ok (.aload_n 0, 1) := by decide +kernel
theorem dX1_push_6 : decode cX1_push 6 = .ok (.getfield 24, 3) := by decide +kernel
theorem dX1_push_9 : decode cX1_push 9 = .ok (.aaload, 1) := by decide +kernel
theorem dX1_push_10 : decode cX1_push 10 = .ok (.invokevirtual 27, 3) := by decide +kernel
theorem dX1_push_13 : decode cX1_push 13 = .ok (.aload_n 0, 1) := by decide +kernel
theorem dX1_push_14 : decode cX1_push 14 = .ok (.getfield 16, 3) := by decide +kernel
theorem dX1_push_17 : decode cX1_push 17 = .ok (.aload_n 0, 1) := by decide +kernel
theorem dX1_push_18 : decode cX1_push 18 = .ok (.getfield 24, 3) := by decide +kernel
theorem dX1_push_21 : decode cX1_push 21 = .ok (.iload_n 2, 1) := by decide +kernel
theorem dX1_push_22 : decode cX1_push 22 = .ok (.iastore, 1) := by decide +kernel
theorem dX1_push_23 : decode cX1_push 23 = .ok (.aload_n 0, 1) := by decide +kernel
theorem dX1_push_24 : decode cX1_push 24 = .ok (.aload_n 0, 1) := by decide +kernel
theorem dX1_push_25 : decode cX1_push 25 = .ok (.getfield 24, 3) := by decide +kernel
theorem dX1_push_28 : decode cX1_push 28 = .ok (.iconst 1, 1) := by decide +kernel
theorem dX1_push_29 : decode cX1_push 29 = .ok (.iadd, 1) := by decide +kernel
theorem dX1_push_30 : decode cX1_push 30 = .ok (.bipush 20, 2) := by decide +kernel
theorem dX1_push_32 : decode cX1_push 32 = .ok (.irem, 1) := by decide +kernel
theorem dX1_push_33 : decode cX1_push 33 = .ok (.putfield 24, 3) := by decide +kernel
theorem dX1_push_36 : decode cX1_push 36 = .ok (.aload_n 0, 1) := by decide +kernel
theorem dX1_push_37 : decode cX1_push 37 = .ok (.bipush 20, 2) := by decide +kernel
theorem dX1_push_39 : decode cX1_push 39 = .ok (.aload_n 0, 1) := by decide +kernel
theorem dX1_push_40 : decode cX1_push 40 = .ok (.getfield 20, 3) := by decide +kernel
theorem dX1_push_43 : decode cX1_push 43 = .ok (.iconst 1, 1) := by decide +kernel
theorem dX1_push_44 : decode cX1_push 44 = .ok (.iadd, 1) := by decide +kernel
theorem dX1_push_45 : decode cX1_push 45 = .ok (.invokestatic 31, 3) := by decide +kernel
theorem dX1_push_48 : decode cX1_push 48 = .ok (.putfield 20, 3) := by decide +kernel
theorem dX1_push_51 : decode cX1_push 51 = .ok (.return_, 1) := by decide +kernel
theorem dX1_pop_0 : decode cX1_pop 0 = .ok (.aload_n 0, 1) := by decide +kernel
theorem dX1_pop_1 : decode cX1_pop 1 = .ok (.aload_n 0, 1) := by decide +kernel
theorem dX1_pop_2 : decode cX1_pop 2 = .ok (.getfield 24, 3) := by decide +kernel
theorem dX1_pop_5 : decode cX1_pop 5 = .ok (.bipush 20, 2) := by decide +kernel
theorem dX1_pop_7 : decode cX1_pop 7 = .ok (.iadd, 1) := by decide +kernel
theorem dX1_pop_8 : decode cX1_pop 8 = .ok (.iconst 1, 1) := by decide +kernel
theorem dX1_pop_9 : decode cX1_pop 9 = .ok (.isub, 1) := by decide +kernel
theorem dX1_pop_10 : decode cX1_pop 10 = .ok (.bipush 20, 2) := by decide +kernel
theorem dX1_pop_12 : decode cX1_pop 12 = .ok (.irem, 1) := by decide +kernel
theorem dX1_pop_13 : decode cX1_pop 13 = .ok (.putfield 24, 3) := by decide +kernel
theorem dX1_pop_16 : decode cX1_pop 16 = .ok (.aload_n 0, 1) := by decide +kernel
theorem dX1_pop_17 : decode cX1_pop 17 = .ok (.dup, 1) := by decide +kernel
theorem dX1_pop_18 : decode cX1_pop 18 = .ok (.getfield 20, 3) := by decide +kernel
theorem dX1_pop_21 : decode cX1_pop 21 = .ok (.iconst 1, 1) := by decide +kernel
theorem dX1_pop_22 : decode cX1_pop 22 = .ok (.isub, 1) := by decide +kernel
theorem dX1_pop_23 : decode cX1_pop 23 = .ok (.putfield 20, 3) := by decide +kernel
theorem dX1_pop_26 : decode cX1_pop 26 = .ok (.aload_n 1, 1) := by decide +kernel
theorem dX1_pop_27 : decode cX1_pop 27 = .ok (.aload_n 0, 1) := by decide +kernel
theorem dX1_pop_28 : decode cX1_pop 28 = .ok (.getfield 13, 3) := by decide +kernel
theorem dX1_pop_31 : decode cX1_pop 31 = .ok (.aload_n 0, 1) := by decide +kernel
theorem dX1_pop_32 : decode cX1_pop 32 = .ok (.getfield 24, 3) := by decide +kernel
theorem dX1_pop_35 : decode cX1_pop 35 = .ok (.aaload, 1) := by decide +kernel
theorem dX1_pop_36 : decode cX1_pop 36 = .ok (.invokevirtual 37, 3) := by decide +kernel
theorem dX1_pop_39 : decode cX1_pop 39 = .ok (.aload_n 0, 1) := by decide +kernel
theorem dX1_pop_40 : decode cX1_pop 40 = .ok (.getfield 16, 3) := by decide +kernel
theorem dX1_pop_43 : decode cX1_pop 43 = .ok (.aload_n 0, 1) := by decide +kernel
theorem dX1_pop_44 : decode cX1_pop 44 = .ok (.getfield 24, 3) := by decide +kernel
theorem dX1_pop_47 : decode cX1_pop 47 = .ok (.iaload, 1) := by decide +kernel
theorem dX1_pop_48 : decode cX1_pop 48 = .ok (.ireturn, 1) := by decide +kernel
theorem dX2_init_0 : decode cX2_init 0 = .ok (.aload_n 0, 1) := by decide +kernel
theorem dX2_init_1 : decode cX2_init 1 = .ok (.invokespecial 3, 3) := by decide +kernel
theorem dX2_init_4 : decode cX2_init 4 = .ok (.aload_n 0, 1) := by decide +kernel
theorem dX2_init_5 : decode cX2_init 5 = .ok (.sipush 999, 3) := by decide +kernel
theorem dX2_init_8 : decode cX2_init 8 = .ok (.putfield 9, 3) := by decide +kernel
theorem dX2_init_11 : decode cX2_init 11 = .ok (.aload_n 0, 1) := by decide +kernel
theorem dX2_init_12 : decode cX2_init 12 = .ok (.bipush 8, 2) := by decide +kernel
theorem dX2_init_14 : decode cX2_init 14 = .ok (.newarray .int, 2) := by decide +kernel
theorem dX2_init_16 : decode cX2_init 16 = .ok (.putfield 15, 3) := by decide +kernel
theorem dX2_init_19 : decode cX2_init 19 = .ok (.aload_n 0, 1) := by decide +kernel
theorem dX2_init_20 : decode cX2_init 20 = .ok (.bipush 6, 2) := by decide +kernel
theorem dX2_init_22 : decode cX2_init 22 = .ok (.newarray .int, 2) := by decide +kernel
theorem dX2_init_24 : decode cX2_init 24 = .ok (.putfield 19, 3) := by decide +kernel
theorem dX2_init_27 : decode cX2_init 27 = .ok (.aload_n 0, 1) := by decide +kernel
theorem dX2_init_28 : decode cX2_init 28 = .ok (.bipush 8, 2) := by decide +kernel
theorem dX2_init_30 : decode cX2_init 30 = .ok (.newarray .int, 2) := by decide +kernel
theorem dX2_init_32 : decode cX2_init 32 = .ok (.putfield 22, 3) := by decide +kernel
theorem dX2_init_35 : decode cX2_init 35 = .ok (.aload_n 0, 1) := by decide +kernel
theorem dX2_init_36 : decode cX2_init 36 = .ok (.bipush 8, 2) := by decide +kernel
theorem dX2_init_38 : decode cX2_init 38 = .ok (.newarray .int, 2) := by decide +kernel
theorem dX2_init_40 : decode cX2_init 40 = .ok (.putfield 25, 3) := by decide +kernel
theorem dX2_init_43 : decode cX2_init 43 = .ok (.aload_n 0, 1) := by decide +kernel
theorem dX2_init_44 : decode cX2_init 44 = .ok (.bipush 8, 2) := by decide +kernel
theorem dX2_init_46 : decode cX2_init 46 = .ok (.newarray .int, 2) := by decide +kernel
theorem dX2_init_48 : decode cX2_init 48 = .ok (.putfield 28, 3) := by decide +kernel
theorem dX2_init_51 : decode cX2_init 51 = .ok (.aload_n 0, 1) := by decide +kernel
theorem dX2_init_52 : decode cX2_init 52 = .ok (.bipush 8, 2) := by decide +kernel
theorem dX2_init_54 : decode cX2_init 54 = .ok (.newarray .int, 2) := by decide +kernel
theorem dX2_init_56 : decode cX2_init 56 = .ok (.putfield 31, 3) := by decide +kernel
theorem dX2_init_59 : decode cX2_init 59 = .ok (.aload_n 0, 1) := by decide +kernel
theorem dX2_init_60 : decode cX2_init 60 = .ok (.bipush 8, 2) := by decide +kernel
theorem dX2_init_62 : decode cX2_init 62 = .ok (.newarray .int, 2) := by decide +kernel
theorem dX2_init_64 : decode cX2_init 64 = .ok (.putfield 34, 3) := by decide +kernel
theorem dX2_init_67 : decode cX2_init 67 = .ok (.aload_n 0, 1) := by decide +kernel
theorem dX2_init_68 : decode cX2_init 68 = .ok (.bipush 8, 2) := by decide +kernel
theorem dX2_init_70 : decode cX2_init 70 = .ok (.newarray .int, 2) := by decide +kernel
theorem dX2_init_72 : decode cX2_init 72 = .ok (.putfield 37, 3) := by decide +kernel
theorem dX2_init_75 : decode cX2_init 75 = .ok (.aload_n 0, 1) := by decide +kernel
theorem dX2_init_76 : decode cX2_init 76 = .ok (.bipush 36, 2) := by decide +kernel
theorem dX2_init_78 : decode cX2_init 78 = .ok (.newarray .int, 2) := by decide +kernel
theorem dX2_init_80 : decode cX2_init 80 = .ok (.putfield 40, 3) := by decide +kernel
theorem dX2_init_83 : decode cX2_init 83 = .ok (.aload_n 0, 1) := by decide +kernel
theorem dX2_init_84 : decode cX2_init 84 = .ok (.sipush 1600, 3) := by decide +kernel
theorem dX2_init_87 : decode cX2_init 87 = .ok (.newarray .int, 2) := by decide +kernel
theorem dX2_init_89 : decode cX2_init 89 = .ok (.putfield 43, 3) := by decide +kernel
theorem dX2_init_92 : decode cX2_init 92 = .ok (.aload_n 0, 1) := by decide +kernel
theorem dX2_init_93 : decode cX2_init 93 = .ok (.iconst 3, 1) := by decide +kernel
theorem dX2_init_94 : decode cX2_init 94 = .ok (.newarray .int, 2) := by decide +kernel
theorem dX2_init_96 : decode cX2_init 96 = .ok (.putfield 46, 3) := by decide +kernel
theorem dX2_init_99 : decode cX2_init 99 = .ok (.aload_n 0, 1) := by decide +kernel
theorem dX2_init_100 : decode cX2_init 100 = .ok (.iconst 3, 1) := by decide +kernel
theorem dX2_init_101 : decode cX2_init 101 = .ok (.newarray .int, 2) := by decide +kernel
theorem dX2_init_103 : decode cX2_init 103 = .ok (.putfield 49, 3) := by decide +kernel
theorem dX2_init_106 : decode cX2_init 106 = .ok (.return_, 1) := by decide +kernel
theorem dX2_clear_0 : decode cX2_clear 0 = .ok (.aload_n 0, 1) := by decide +kernel
theorem dX2_clear_1 : decode cX2_clear 1 = .ok (.iconst 0, 1) := by decide +kernel
theorem dX2_clear_2 : decode cX2_clear 2 = .ok (.putfield 52, 3) := by decide +kernel
theorem dX2_clear_5 : decode cX2_clear 5 = .ok (.aload_n 0, 1) := by decide +kernel
theorem dX2_clear_6 : decode cX2_clear 6 = .ok (.iconst 0, 1) := by decide +kernel
theorem dX2_clear_7 : decode cX2_clear 7 = .ok (.putfield 55, 3) := by decide +kernel
theorem dX2_clear_10 : decode cX2_clear 10 = .ok (.aload_n 0, 1) := by decide +kernel
theorem dX2_clear_11 : decode cX2_clear 11 = .ok (.iconst 0, 1) := by decide +kernel
theorem dX2_clear_12 : decode cX2_clear 12 = .ok (.putfield 58, 3) := by decide +kernel
theorem dX2_clear_15 : decode cX2_clear 15 = .ok (.aload_n 0, 1) := by decide +kernel
theorem dX2_clear_16 : decode cX2_clear 16 = .ok (.iconst 0, 1) := by decide +kernel
theorem dX2_clear_17 : decode cX2_clear 17 = .ok (.putfield 61, 3) := by decide +kernel
theorem dX2_clear_20 : decode cX2_clear 20 = .ok (.aload_n 0, 1) := by decide +kernel
theorem dX2_clear_21 : decode cX2_clear 21 = .ok (.iconst 0, 1) := by decide +kernel
theorem dX2_clear_22 : decode cX2_clear 22 = .ok (.putfield 64, 3) := by decide +kernel
theorem dX2_clear_25 : decode cX2_clear 25 = .ok (.aload_n 0, 1) := by decide +kernel
theorem dX2_clear_26 : decode cX2_clear 26 = .ok (.sipush 999, 3) := by decide +kernel
theorem dX2_clear_29 : decode cX2_clear 29 = .ok (.putfield 9, 3) := by decide +kernel
theorem dX2_clear_32 : decode cX2_clear 32 = .ok (.aload_n 0, 1) := by decide +kernel
theorem dX2_clear_33 : decode cX2_clear 33 = .ok (.iconst 0, 1) := by decide +kernel
theorem dX2_clear_34 : decode cX2_clear 34 = .ok (.putfield 67, 3) := by decide +kernel
theorem dX2_clear_37 : decode cX2_clear 37 = .ok (.aload_n 0, 1) := by decide +kernel
theorem dX2_clear_38 : decode cX2_clear 38 = .ok (.getfield 40, 3) := by decide +kernel
theorem dX2_clear_41 : decode cX2_clear 41 = .ok (.iconst 0, 1) := by decide +kernel
theorem dX2_clear_42 : decode cX2_clear 42 = .ok (.invokestatic 70, 3) := by decide +kernel
theorem dX2_clear_45 : decode cX2_clear 45 = .ok (.aload_n 0, 1) := by decide +kernel
theorem dX2_clear_46 : decode cX2_clear 46 = .ok (.getfield 46, 3) := by decide +kernel
theorem dX2_clear_49 : decode cX2_clear 49 = .ok (.iconst 0, 1) := by decide +kernel
theorem dX2_clear_50 : decode cX2_clear 50 = .ok (.invokestatic 70, 3) := by decide +kernel
theorem dX2_clear_53 : decode cX2_clear 53 = .ok (.aload_n 0, 1) := by decide +kernel
theorem dX2_clear_54 : decode cX2_clear 54 = .ok (.getfield 49, 3) := by decide +kernel
theorem dX2_clear_57 : decode cX2_clear 57 = .ok (.iconst 0, 1) := by decide +kernel
theorem dX2_clear_58 : decode cX2_clear 58 = .ok (.invokestatic 70, 3) := by decide +kernel
theorem dX2_clear_61 : decode cX2_clear 61 = .ok (.return_, 1) := by decide +kernel
theorem dX2_hasRule_0 : decode cX2_hasRule 0 = .ok (.aload_n 0, 1) := by decide +kernel
theorem dX2_hasRule_1 : decode cX2_hasRule 1 = .ok (.getfield 49, 3) := by decide +kernel
theorem dX2_hasRule_4 : decode cX2_hasRule 4 = .ok (.iload_n 1, 1) := by decide +kernel
theorem dX2_hasRule_5 : decode cX2_hasRule 5 = .ok (.iaload, 1) := by decide +kernel
theorem dX2_hasRule_6 : decode cX2_hasRule 6 = .ok (.aload_n 0, 1) := by decide +kernel
theorem dX2_hasRule_7 : decode cX2_hasRule 7 = .ok (.getfield 46, 3) := by decide +kernel
theorem dX2_hasRule_10 : decode cX2_hasRule 10 = .ok (.iload_n 1, 1) := by decide +kernel
theorem dX2_hasRule_11 : decode cX2_hasRule 11 = .ok (.iaload, 1) := by decide +kernel
theorem dX2_hasRule_12 : decode cX2_hasRule 12 = .ok (.if_icmp .le 7, 3) := by decide +kernel
theorem dX2_hasRule_15 : decode cX2_hasRule 15 = .ok (.iconst 1, 1) := by decide +kernel
theorem dX2_hasRule_16 : decode cX2_hasRule 16 = .ok (.goto 4, 3) := by decide +kernel
theorem dX2_hasRule_19 : decode cX2_hasRule 19 = .ok (.iconst 0, 1) := by decide +kernel
theorem dX2_hasRule_20 : decode cX2_hasRule 20 = .ok (.ireturn, 1) := by decide +kernel
theorem dX2_emit_0 : decode cX2_emit 0 = .ok (.aload_n 0, 1) := by decide +kernel
theorem dX2_emit_1 : decode cX2_emit 1 = .ok (.getfield 67, 3) := by decide +kernel
theorem dX2_emit_4 : decode cX2_emit 4 = .ok (.sipush 1600, 3) := by decide +kernel
theorem dX2_emit_7 : decode cX2_emit 7 = .ok (.if_icmp .lt 5, 3) := by decide +kernel
theorem dX2_emit_10 : decode cX2_emit 10 = .ok (.iconst 0, 1) := by decide +kernel
theorem dX2_emit_11 : decode cX2_emit 11 = .ok (.ireturn, 1) := by decide +kernel
theorem dX2_emit_12 : decode cX2_emit 12 = .ok (.aload_n 0, 1) := by decide +kernel
theorem dX2_emit_13 : decode cX2_emit 13 = .ok (.getfield 43, 3) := by decide +kernel
theorem dX2_emit_16 : decode cX2_emit 16 = .ok (.aload_n 0, 1) := by decide +kernel
theorem dX2_emit_17 : decode cX2_emit 17 = .ok (.getfield 67, 3) := by decide +kernel
theorem dX2_emit_20 : decode cX2_emit 20 = .ok (.iload_n 1, 1) := by decide +kernel
theorem dX2_emit_21 : decode cX2_emit 21 = .ok (.iastore, 1) := by decide +kernel
theorem dX2_emit_22 : decode cX2_emit 22 = .ok (.aload_n 0, 1) := by decide +kernel
theorem dX2_emit_23 : decode cX2_emit 23 = .ok (.dup, 1) := by decide +kernel
theorem dX2_emit_24 : decode cX2_emit 24 = .ok (.getfield 67, 3) := by decide +kernel
theorem dX2_emit_27 : decode cX2_emit 27 = .ok (.iconst 1, 1) := by decide +kernel
theorem dX2_emit_28 : decode cX2_emit 28 = .ok (.iadd, 1) := by decide +kernel
theorem dX2_emit_29 : decode cX2_emit 29 = .ok (.putfield 67, 3) := by decide +kernel
theorem dX2_emit_32 : decode cX2_emit 32 = .ok (.iconst 1, 1) := by decide +kernel
theorem dX2_emit_33 : decode cX2_emit 33 = .ok (.ireturn, 1) := by decide +kernel
theorem dX2_find_0 : decode cX2_find 0 = .ok (.iconst 0, 1) := by decide +kernel
theorem dX2_find_1 : decode cX2_find 1 = .ok (.istore 4, 2) := by decide +kernel
theorem dX2_find_3 : decode cX2_find 3 = .ok (.iload 4, 2) := by decide +kernel
theorem dX2_find_5 : decode cX2_find 5 = .ok (.iload_n 2, 1) := by decide +kernel
theorem dX2_find_6 : decode cX2_find 6 = .ok (.if_icmp .ge 20, 3) := by decide +kernel
theorem dX2_find_9 : decode cX2_find 9 = .ok (.aload_n 1, 1) := by decide +kernel
theorem dX2_find_10 : decode cX2_find 10 = .ok (.iload 4, 2) := by decide +kernel
theorem dX2_find_12 : decode cX2_find 12 = .ok (.iaload, 1) := by decide +kernel
theorem dX2_find_13 : decode cX2_find 13 = .ok (.iload_n 3, 1) := by decide +kernel
theorem dX2_find_14 : decode cX2_find 14 = .ok (.if_icmp .ne 6, 3) := by decide +kernel
theorem dX2_find_17 : decode cX2_find 17 = .ok (.iload 4, 2) := by decide +kernel
theorem dX2_find_19 : decode cX2_find 19 = .ok (.ireturn, 1) := by decide +kernel
theorem dX2_find_20 : decode cX2_find 20 = .ok (.iinc 4 1, 3) := by decide +kernel
theorem dX2_find_23 : decode cX2_find 23 = .ok (.goto (-20), 3) := by decide +kernel
theorem dX2_find_26 : decode cX2_find 26 = .ok (.iconst (-1), 1) := by decide +kernel
theorem dX2_find_27 : decode cX2_find 27 = .ok (.ireturn, 1) := by decide +kernel
theorem dX2_findHollow_0 : decode cX2_findHollow 0 = .ok (.aload_n 0, 1) := by decide +kernel
theorem dX2_findHollow_1 : decode cX2_findHollow 1 = .ok (.aload_n 0, 1) := by decide +kernel
theorem dX2_findHollow_2 : decode cX2_findHollow 2 = .ok (.getfield 15, 3) := by decide +kernel
theorem dX2_findHollow_5 : decode cX2_findHollow 5 = .ok (.aload_n 0, 1) := by decide +kernel
theorem dX2_findHollow_6 : decode cX2_findHollow 6 = .ok (.getfield 55, 3) := by decide +kernel
theorem dX2_findHollow_9 : decode cX2_findHollow 9 = .ok (.iload_n 1, 1) := by decide +kernel
theorem dX2_findHollow_10 : decode cX2_findHollow 10 = .ok (.invokevirtual 76, 3) := by decide +kernel
theorem dX2_findHollow_13 : decode cX2_findHollow 13 = .ok (.ireturn, 1) := by decide +kernel
theorem dX2_findOwner_0 : decode cX2_findOwner 0 = .ok (.aload_n 0, 1) := by decide +kernel
theorem dX2_findOwner_1 : decode cX2_findOwner 1 = .ok (.aload_n 0, 1) := by decide +kernel
theorem dX2_findOwner_2 : decode cX2_findOwner 2 = .ok (.getfield 19, 3) := by decide +kernel
theorem dX2_findOwner_5 : decode cX2_findOwner 5 = .ok (.aload_n 0, 1) := by decide +kernel
theorem dX2_findOwner_6 : decode cX2_findOwner 6 = .ok (.getfield 58, 3) := by decide +kernel
theorem dX2_findOwner_9 : decode cX2_findOwner 9 = .ok (.iload_n 1, 1) := by decide +kernel
theorem dX2_findOwner_10 : decode cX2_findOwner 10 = .ok (.invokevirtual 76, 3) := by decide +kernel
theorem dX2_findOwner_13 : decode cX2_findOwner 13 = .ok (.ireturn, 1) := by decide +kernel
theorem dX2_isTaken_0 : decode cX2_isTaken 0 = .ok (.aload_n 0, 1) := by decide +kernel
theorem dX2_isTaken_1 : decode cX2_isTaken 1 = .ok (.aload_n 0, 1) := by decide +kernel
theorem dX2_isTaken_2 : decode cX2_isTaken 2 = .ok (.getfield 15, 3) := by decide +kernel
theorem dX2_isTaken_5 : decode cX2_isTaken 5 = .ok (.aload_n 0, 1) := by decide +kernel
theorem dX2_isTaken_6 : decode cX2_isTaken 6 = .ok (.getfield 55, 3) := by decide +kernel
theorem dX2_isTaken_9 : decode cX2_isTaken 9 = .ok (.iload_n 1, 1) := by decide +kernel
theorem dX2_isTaken_10 : decode cX2_isTaken 10 = .ok (.invokevirtual 76, 3) := by decide +kernel
theorem dX2_isTaken_13 : decode cX2_isTaken 13 = .ok (.iconst (-1), 1) := by decide +kernel
theorem dX2_isTaken_14 : decode cX2_isTaken 14 = .ok (.if_icmp .ne 37, 3) := by decide +kernel
theorem dX2_isTaken_17 : decode cX2_isTaken 17 = .ok (.aload_n 0, 1) := by decide +kernel
theorem dX2_isTaken_18 : decode cX2_isTaken 18 = .ok (.aload_n 0, 1) := by decide +kernel
theorem dX2_isTaken_19 : decode cX2_isTaken 19 = .ok (.getfield 19, 3) := by decide +kernel
theorem dX2_isTaken_22 : decode cX2_isTaken 22 = .ok (.aload_n 0, 1) := by decide +kernel
theorem dX2_isTaken_23 : decode cX2_isTaken 23 = .ok (.getfield 58, 3) := by decide +kernel
theorem dX2_isTaken_26 : decode cX2_isTaken 26 = .ok (.iload_n 1, 1) := by decide +kernel
theorem dX2_isTaken_27 : decode cX2_isTaken 27 = .ok (.invokevirtual 76, 3) := by decide +kernel
theorem dX2_isTaken_30 : decode cX2_isTaken 30 = .ok (.iconst (-1), 1) := by decide +kernel
theorem dX2_isTaken_31 : decode cX2_isTaken 31 = .ok (.if_icmp .ne 20, 3) := by decide +kernel
theorem dX2_isTaken_34 : decode cX2_isTaken 34 = .ok (.aload_n 0, 1) := by decide +kernel
theorem dX2_isTaken_35 : decode cX2_isTaken 35 = .ok (.aload_n 0, 1) := by decide +kernel
theorem dX2_isTaken_36 : decode cX2_isTaken 36 = .ok (.getfield 22, 3) := by decide +kernel
theorem dX2_isTaken_39 : decode cX2_isTaken 39 = .ok (.aload_n 0, 1) := by decide +kernel
theorem dX2_isTaken_40 : decode cX2_isTaken 40 = .ok (.getfield 61, 3) := by decide +kernel
theorem dX2_isTaken_43 : decode cX2_isTaken 43 = .ok (.iload_n 1, 1) := by decide +kernel
theorem dX2_isTaken_44 : decode cX2_isTaken 44 = .ok (.invokevirtual 76, 3) := by decide +kernel
theorem dX2_isTaken_47 : decode cX2_isTaken 47 = .ok (.iconst (-1), 1) := by decide +kernel
theorem dX2_isTaken_48 : decode cX2_isTaken 48 = .ok (.if_icmp .eq 7, 3) := by decide +kernel
theorem dX2_isTaken_51 : decode cX2_isTaken 51 = .ok (.iconst 1, 1) := by decide +kernel
theorem dX2_isTaken_52 : decode cX2_isTaken 52 = .ok (.goto 4, 3) := by decide +kernel
theorem dX2_isTaken_55 : decode cX2_isTaken 55 = .ok (.iconst 0, 1) := by decide +kernel
theorem dX2_isTaken_56 : decode cX2_isTaken 56 = .ok (.ireturn, 1) := by decide +kernel
theorem dX2_letterOf_0 : decode cX2_letterOf 0 = .ok (.iload_n 1, 1) := by decide +kernel
theorem dX2_letterOf_1 : decode cX2_letterOf 1 = .ok (.iconst 5, 1) := by decide +kernel
theorem dX2_letterOf_2 : decode cX2_letterOf 2 = .ok (.iload_n 2, 1) := by decide +kernel
theorem dX2_letterOf_3 : decode cX2_letterOf 3 = .ok (.imul, 1) := by decide +kernel
theorem dX2_letterOf_4 : decode cX2_letterOf 4 = .ok (.iushr, 1) := by decide +kernel
theorem dX2_letterOf_5 : decode cX2_letterOf 5 = .ok (.bipush 31, 2) := by decide +kernel
theorem dX2_letterOf_7 : decode cX2_letterOf 7 = .ok (.iand, 1) := by decide +kernel
theorem dX2_letterOf_8 : decode cX2_letterOf 8 = .ok (.ireturn, 1) := by decide +kernel
theorem dX2_roomAtFirst_0 : decode cX2_roomAtFirst 0 = .ok (.aload_n 0, 1) := by decide +kernel
theorem dX2_roomAtFirst_1 : decode cX2_roomAtFirst 1 = .ok (.getfield 25, 3) := by decide +kernel
theorem dX2_roomAtFirst_4 : decode cX2_roomAtFirst 4 = .ok (.iload_n 1, 1) := by decide +kernel
theorem dX2_roomAtFirst_5 : decode cX2_roomAtFirst 5 = .ok (.iaload, 1) := by decide +kernel
theorem dX2_roomAtFirst_6 : decode cX2_roomAtFirst 6 = .ok (.istore_n 2, 1) := by decide +kernel
theorem dX2_roomAtFirst_7 : decode cX2_roomAtFirst 7 = .ok (.iconst 0, 1) := by decide +kernel
theorem dX2_roomAtFirst_8 : decode cX2_roomAtFirst 8 = .ok (.istore_n 3, 1) := by decide +kernel
theorem dX2_roomAtFirst_9 : decode cX2_roomAtFirst 9 = .ok (.iload_n 3, 1) := by decide +kernel
theorem dX2_roomAtFirst_10 : decode cX2_roomAtFirst 10 = .ok (.aload_n 0, 1) := by decide +kernel
theorem dX2_roomAtFirst_11 : decode cX2_roomAtFirst 11 = .ok (.getfield 61, 3) := by decide +kernel
theorem dX2_roomAtFirst_14 : decode cX2_roomAtFirst 14 = .ok (.if_icmp .ge 28, 3) := by decide +kernel
theorem dX2_roomAtFirst_17 : decode cX2_roomAtFirst 17 = .ok (.aload_n 0, 1) := by decide +kernel
theorem dX2_roomAtFirst_18 : decode cX2_roomAtFirst 18 = .ok (.getfield 34, 3) := by decide +kernel
theorem dX2_roomAtFirst_21 : decode cX2_roomAtFirst 21 = .ok (.iload_n 3, 1) := by decide +kernel
theorem dX2_roomAtFirst_22 : decode cX2_roomAtFirst 22 = .ok (.iaload, 1) := by decide +kernel
theorem dX2_roomAtFirst_23 : decode cX2_roomAtFirst 23 = .ok (.iload_n 1, 1) := by decide +kernel
theorem dX2_roomAtFirst_24 : decode cX2_roomAtFirst 24 = .ok (.if_icmp .ne 12, 3) := by decide +kernel
theorem dX2_roomAtFirst_27 : decode cX2_roomAtFirst 27 = .ok (.iload_n 2, 1) := by decide +kernel
theorem dX2_roomAtFirst_28 : decode cX2_roomAtFirst 28 = .ok (.aload_n 0, 1) := by decide +kernel
theorem dX2_roomAtFirst_29 : decode cX2_roomAtFirst 29 = .ok (.getfield 31, 3) := by decide +kernel
theorem dX2_roomAtFirst_32 : decode cX2_roomAtFirst 32 = .ok (.iload_n 3, 1) := by decide +kernel
theorem dX2_roomAtFirst_33 : decode cX2_roomAtFirst 33 = .ok (.iaload, 1) := by decide +kernel
theorem dX2_roomAtFirst_34 : decode cX2_roomAtFirst 34 = .ok (.isub, 1) := by decide +kernel
theorem dX2_roomAtFirst_35 : decode cX2_roomAtFirst 35 = .ok (.istore_n 2, 1) := by decide +kernel
theorem dX2_roomAtFirst_36 : decode cX2_roomAtFirst 36 = .ok (.iinc 3 1, 3) := by decide +kernel
theorem dX2_roomAtFirst_39 : decode cX2_roomAtFirst 39 = .ok (.goto (-30), 3) := by decide +kernel
theorem dX2_roomAtFirst_42 : decode cX2_roomAtFirst 42 = .ok (.iload_n 2, 1) := by decide +kernel
theorem dX2_roomAtFirst_43 : decode cX2_roomAtFirst 43 = .ok (.ireturn, 1) := by decide +kernel
theorem dX3_init_0 : decode cX3_init 0 = .ok (.aload_n 0, 1) := by decide +kernel
theorem dX3_init_1 : decode cX3_init 1 = .ok (.invokespecial 3, 3) := by decide +kernel
theorem dX3_init_4 : decode cX3_init 4 = .ok (.aload_n 0, 1) := by decide +kernel
theorem dX3_init_5 : decode cX3_init 5 = .ok (.sipush 128, 3) := by decide +kernel
theorem dX3_init_8 : decode cX3_init 8 = .ok (.newarray .int, 2) := by decide +kernel
theorem dX3_init_10 : decode cX3_init 10 = .ok (.putfield 11, 3) := by decide +kernel
theorem dX3_init_13 : decode cX3_init 13 = .ok (.aload_n 0, 1) := by decide +kernel
theorem dX3_init_14 : decode cX3_init 14 = .ok (.bipush 6, 2) := by decide +kernel
theorem dX3_init_16 : decode cX3_init 16 = .ok (.newarray .int, 2) := by decide +kernel
theorem dX3_init_18 : decode cX3_init 18 = .ok (.putfield 15, 3) := by decide +kernel
theorem dX3_init_21 : decode cX3_init 21 = .ok (.return_, 1) := by decide +kernel
theorem dX3_setLake_0 : decode cX3_setLake 0 = .ok (.aload_n 0, 1) := by decide +kernel
theorem dX3_setLake_1 : decode cX3_setLake 1 = .ok (.getfield 15, 3) := by decide +kernel
theorem dX3_setLake_4 : decode cX3_setLake 4 = .ok (.iconst 0, 1) := by decide +kernel
theorem dX3_setLake_5 : decode cX3_setLake 5 = .ok (.iload_n 1, 1) := by decide +kernel
theorem dX3_setLake_6 : decode cX3_setLake 6 = .ok (.iastore, 1) := by decide +kernel
theorem dX3_setLake_7 : decode cX3_setLake 7 = .ok (.aload_n 0, 1) := by decide +kernel
theorem dX3_setLake_8 : decode cX3_setLake 8 = .ok (.getfield 15, 3) := by decide +kernel
theorem dX3_setLake_11 : decode cX3_setLake 11 = .ok (.iconst 1, 1) := by decide +kernel
theorem dX3_setLake_12 : decode cX3_setLake 12 = .ok (.iload_n 2, 1) := by decide +kernel
theorem dX3_setLake_13 : decode cX3_setLake 13 = .ok (.iastore, 1) := by decide +kernel
theorem dX3_setLake_14 : decode cX3_setLake 14 = .ok (.aload_n 0, 1) := by decide +kernel
theorem dX3_setLake_15 : decode cX3_setLake 15 = .ok (.getfield 15, 3) := by decide +kernel
theorem dX3_setLake_18 : decode cX3_setLake 18 = .ok (.iconst 2, 1) := by decide +kernel
theorem dX3_setLake_19 : decode cX3_setLake 19 = .ok (.iload_n 3, 1) := by decide +kernel
theorem dX3_setLake_20 : decode cX3_setLake 20 = .ok (.iastore, 1) := by decide +kernel
theorem dX3_setLake_21 : decode cX3_setLake 21 = .ok (.return_, 1) := by decide +kernel
theorem dX3_setDrought_0 : decode cX3_setDrought 0 = .ok (.aload_n 0, 1) := by decide +kernel
theorem dX3_setDrought_1 : decode cX3_setDrought 1 = .ok (.getfield 15, 3) := by decide +kernel
theorem dX3_setDrought_4 : decode cX3_setDrought 4 = .ok (.iconst 3, 1) := by decide +kernel
theorem dX3_setDrought_5 : decode cX3_setDrought 5 = .ok (.iload_n 1, 1) := by decide +kernel
theorem dX3_setDrought_6 : decode cX3_setDrought 6 = .ok (.iastore, 1) := by decide +kernel
theorem dX3_setDrought_7 : decode cX3_setDrought 7 = .ok (.return_, 1) := by decide +kernel
theorem dX3_setWay_0 : decode cX3_setWay 0 = .ok (.aload_n 0, 1) := by decide +kernel
theorem dX3_setWay_1 : decode cX3_setWay 1 = .ok (.getfield 15, 3) := by decide +kernel
theorem dX3_setWay_4 : decode cX3_setWay 4 = .ok (.iconst 4, 1) := by decide +kernel
theorem dX3_setWay_5 : decode cX3_setWay 5 = .ok (.iload_n 1, 1) := by decide +kernel
theorem dX3_setWay_6 : decode cX3_setWay 6 = .ok (.iastore, 1) := by decide +kernel
theorem dX3_setWay_7 : decode cX3_setWay 7 = .ok (.aload_n 0, 1) := by decide +kernel
theorem dX3_setWay_8 : decode cX3_setWay 8 = .ok (.getfield 15, 3) := by decide +kernel
theorem dX3_setWay_11 : decode cX3_setWay 11 = .ok (.iconst 5, 1) := by decide +kernel
theorem dX3_setWay_12 : decode cX3_setWay 12 = .ok (.iload_n 2, 1) := by decide +kernel
theorem dX3_setWay_13 : decode cX3_setWay 13 = .ok (.iastore, 1) := by decide +kernel
theorem dX3_setWay_14 : decode cX3_setWay 14 = .ok (.return_, 1) := by decide +kernel
theorem dX3_run_0 : decode cX3_run 0 = .ok (.aload_n 0, 1) := by decide +kernel
theorem dX3_run_1 : decode cX3_run 1 = .ok (.iconst 0, 1) := by decide +kernel
theorem dX3_run_2 : decode cX3_run 2 = .ok (.putfield 18, 3) := by decide +kernel
theorem dX3_run_5 : decode cX3_run 5 = .ok (.aload_n 1, 1) := by decide +kernel
theorem dX3_run_6 : decode cX3_run 6 = .ok (.getfield 22, 3) := by decide +kernel
theorem dX3_run_9 : decode cX3_run 9 = .ok (.iload_n 2, 1) := by decide +kernel
theorem dX3_run_10 : decode cX3_run 10 = .ok (.iaload, 1) := by decide +kernel
theorem dX3_run_11 : decode cX3_run 11 = .ok (.sipush 1600, 3) := by decide +kernel
theorem dX3_run_14 : decode cX3_run 14 = .ok (.invokestatic 27, 3) := by decide +kernel
theorem dX3_run_17 : decode cX3_run 17 = .ok (.istore_n 3, 1) := by decide +kernel
theorem dX3_run_18 : decode cX3_run 18 = .ok (.iconst 0, 1) := by decide +kernel
theorem dX3_run_19 : decode cX3_run 19 = .ok (.aload_n 1, 1) := by decide +kernel
theorem dX3_run_20 : decode cX3_run 20 = .ok (.getfield 33, 3) := by decide +kernel
theorem dX3_run_23 : decode cX3_run 23 = .ok (.iload_n 2, 1) := by decide +kernel
theorem dX3_run_24 : decode cX3_run 24 = .ok (.iaload, 1) := by decide +kernel
theorem dX3_run_25 : decode cX3_run 25 = .ok (.invokestatic 36, 3) := by decide +kernel
theorem dX3_run_28 : decode cX3_run 28 = .ok (.istore 4, 2) := by decide +kernel
theorem dX3_run_30 : decode cX3_run 30 = .ok (.iload 4, 2) := by decide +kernel
theorem dX3_run_32 : decode cX3_run 32 = .ok (.iload_n 3, 1) := by decide +kernel
theorem dX3_run_33 : decode cX3_run 33 = .ok (.if_icmp .ge 20, 3) := by decide +kernel
theorem dX3_run_36 : decode cX3_run 36 = .ok (.aload_n 0, 1) := by decide +kernel
theorem dX3_run_37 : decode cX3_run 37 = .ok (.aload_n 1, 1) := by decide +kernel
theorem dX3_run_38 : decode cX3_run 38 = .ok (.getfield 39, 3) := by decide +kernel
theorem dX3_run_41 : decode cX3_run 41 = .ok (.iload 4, 2) := by decide +kernel
theorem dX3_run_43 : decode cX3_run 43 = .ok (.iaload, 1) := by decide +kernel
theorem dX3_run_44 : decode cX3_run 44 = .ok (.invokevirtual 42, 3) := by decide +kernel
theorem dX3_run_47 : decode cX3_run 47 = .ok (.iinc 4 1, 3) := by decide +kernel
theorem dX3_run_50 : decode cX3_run 50 = .ok (.goto (-20), 3) := by decide +kernel
theorem dX3_run_53 : decode cX3_run 53 = .ok (.aload_n 0, 1) := by decide +kernel
theorem dX3_run_54 : decode cX3_run 54 = .ok (.invokevirtual 46, 3) := by decide +kernel
theorem dX3_run_57 : decode cX3_run 57 = .ok (.ireturn, 1) := by decide +kernel
theorem dX3_step_0 : decode cX3_step 0 = .ok (.iload_n 1, 1) := by decide +kernel
theorem dX3_step_1 : decode cX3_step 1 = .ok (.ifCond .lt 11, 3) := by decide +kernel
theorem dX3_step_4 : decode cX3_step 4 = .ok (.aload_n 0, 1) := by decide +kernel
theorem dX3_step_5 : decode cX3_step 5 = .ok (.iload_n 1, 1) := by decide +kernel
theorem dX3_step_6 : decode cX3_step 6 = .ok (.invokevirtual 50, 3) := by decide +kernel
theorem dX3_step_9 : decode cX3_step 9 = .ok (.goto 101, 3) := by decide +kernel
theorem dX3_step_12 : decode cX3_step 12 = .ok (.iload_n 1, 1) := by decide +kernel
theorem dX3_step_13 : decode cX3_step 13 = .ok (.bipush (-6), 2) := by decide +kernel
theorem dX3_step_15 : decode cX3_step 15 = .ok (.if_icmp .lt 18, 3) := by decide +kernel
theorem dX3_step_18 : decode cX3_step 18 = .ok (.aload_n 0, 1) := by decide +kernel
theorem dX3_step_19 : decode cX3_step 19 = .ok (.aload_n 0, 1) := by decide +kernel
theorem dX3_step_20 : decode cX3_step 20 = .ok (.getfield 15, 3) := by decide +kernel
theorem dX3_step_23 : decode cX3_step 23 = .ok (.iconst (-1), 1) := by decide +kernel
theorem dX3_step_24 : decode cX3_step 24 = .ok (.iload_n 1, 1) := by decide +kernel
theorem dX3_step_25 : decode cX3_step 25 = .ok (.isub, 1) := by decide +kernel
theorem dX3_step_26 : decode cX3_step 26 = .ok (.iaload, 1) := by decide +kernel
theorem dX3_step_27 : decode cX3_step 27 = .ok (.invokevirtual 50, 3) := by decide +kernel
theorem dX3_step_30 : decode cX3_step 30 = .ok (.goto 80, 3) := by decide +kernel
theorem dX3_step_33 : decode cX3_step 33 = .ok (.iload_n 1, 1) := by decide +kernel
theorem dX3_step_34 : decode cX3_step 34 = .ok (.bipush (-7), 2) := by decide +kernel
theorem dX3_step_36 : decode cX3_step 36 = .ok (.if_icmp .ne 16, 3) := by decide +kernel
theorem dX3_step_39 : decode cX3_step 39 = .ok (.aload_n 0, 1) := by decide +kernel
theorem dX3_step_40 : decode cX3_step 40 = .ok (.iconst 1, 1) := by decide +kernel
theorem dX3_step_41 : decode cX3_step 41 = .ok (.aload_n 0, 1) := by decide +kernel
theorem dX3_step_42 : decode cX3_step 42 = .ok (.invokevirtual 46, 3) := by decide +kernel
theorem dX3_step_45 : decode cX3_step 45 = .ok (.isub, 1) := by decide +kernel
theorem dX3_step_46 : decode cX3_step 46 = .ok (.invokevirtual 50, 3) := by decide +kernel
theorem dX3_step_49 : decode cX3_step 49 = .ok (.goto 61, 3) := by decide +kernel
theorem dX3_step_52 : decode cX3_step 52 = .ok (.iload_n 1, 1) := by decide +kernel
theorem dX3_step_53 : decode cX3_step 53 = .ok (.bipush (-8), 2) := by decide +kernel
theorem dX3_step_55 : decode cX3_step 55 = .ok (.if_icmp .ne 32, 3) := by decide +kernel
theorem dX3_step_58 : decode cX3_step 58 = .ok (.aload_n 0, 1) := by decide +kernel
theorem dX3_step_59 : decode cX3_step 59 = .ok (.invokevirtual 46, 3) := by decide +kernel
theorem dX3_step_62 : decode cX3_step 62 = .ok (.istore_n 2, 1) := by decide +kernel
theorem dX3_step_63 : decode cX3_step 63 = .ok (.aload_n 0, 1) := by decide +kernel
theorem dX3_step_64 : decode cX3_step 64 = .ok (.invokevirtual 46, 3) := by decide +kernel
theorem dX3_step_67 : decode cX3_step 67 = .ok (.istore_n 3, 1) := by decide +kernel
theorem dX3_step_68 : decode cX3_step 68 = .ok (.aload_n 0, 1) := by decide +kernel
theorem dX3_step_69 : decode cX3_step 69 = .ok (.aload_n 0, 1) := by decide +kernel
theorem dX3_step_70 : decode cX3_step 70 = .ok (.invokevirtual 46, 3) := by decide +kernel
theorem dX3_step_73 : decode cX3_step 73 = .ok (.ifCond .eq 7, 3) := by decide +kernel
theorem dX3_step_76 : decode cX3_step 76 = .ok (.iload_n 3, 1) := by decide +kernel
theorem dX3_step_77 : decode cX3_step 77 = .ok (.goto 4, 3) := by decide +kernel
theorem dX3_step_80 : decode cX3_step 80 = .ok (.iload_n 2, 1) := by decide +kernel
theorem dX3_step_81 : decode cX3_step 81 = .ok (.invokevirtual 50, 3) := by decide +kernel
theorem dX3_step_84 : decode cX3_step 84 = .ok (.goto 26, 3) := by decide +kernel
theorem dX3_step_87 : decode cX3_step 87 = .ok (.aload_n 0, 1) := by decide +kernel
theorem dX3_step_88 : decode cX3_step 88 = .ok (.invokevirtual 46, 3) := by decide +kernel
theorem dX3_step_91 : decode cX3_step 91 = .ok (.istore_n 2, 1) := by decide +kernel
theorem dX3_step_92 : decode cX3_step 92 = .ok (.aload_n 0, 1) := by decide +kernel
theorem dX3_step_93 : decode cX3_step 93 = .ok (.iload_n 1, 1) := by decide +kernel
theorem dX3_step_94 : decode cX3_step 94 = .ok (.aload_n 0, 1) := by decide +kernel
theorem dX3_step_95 : decode cX3_step 95 = .ok (.invokevirtual 46, 3) := by decide +kernel
theorem dX3_step_98 : decode cX3_step 98 = .ok (.i2l, 1) := by decide +kernel
theorem dX3_step_99 : decode cX3_step 99 = .ok (.iload_n 2, 1) := by decide +kernel
theorem dX3_step_100 : decode cX3_step 100 = .ok (.i2l, 1) := by decide +kernel
theorem dX3_step_101 : decode cX3_step 101 = .ok (.invokestatic 53, 3) := by decide +kernel
theorem dX3_step_104 : decode cX3_step 104 = .ok (.invokestatic 57, 3) := by decide +kernel
theorem dX3_step_107 : decode cX3_step 107 = .ok (.invokevirtual 50, 3) := by decide +kernel
theorem dX3_step_110 : decode cX3_step 110 = .ok (.return_, 1) := by decide +kernel
theorem dX3_push_0 : decode cX3_push 0 = .ok (.aload_n 0, 1) := by decide +kernel
theorem dX3_push_1 : decode cX3_push 1 = .ok (.getfield 18, 3) := by decide +kernel
theorem dX3_push_4 : decode cX3_push 4 = .ok (.sipush 128, 3) := by decide +kernel
theorem dX3_push_7 : decode cX3_push 7 = .ok (.if_icmp .ge 23, 3) := by decide +kernel
theorem dX3_push_10 : decode cX3_push 10 = .ok (.aload_n 0, 1) := by decide +kernel
theorem dX3_push_11 : decode cX3_push 11 = .ok (.getfield 11, 3) := by decide +kernel
theorem dX3_push_14 : decode cX3_push 14 = .ok (.aload_n 0, 1) := by decide +kernel
theorem dX3_push_15 : decode cX3_push 15 = .ok (.getfield 18, 3) := by decide +kernel
theorem dX3_push_18 : decode cX3_push 18 = .ok (.iload_n 1, 1) := by decide +kernel
theorem dX3_push_19 : decode cX3_push 19 = .ok (.iastore, 1) := by decide +kernel
theorem dX3_push_20 : decode cX3_push 20 = .ok (.aload_n 0, 1) := by decide +kernel
theorem dX3_push_21 : decode cX3_push 21 = .ok (.dup, 1) := by decide +kernel
theorem dX3_push_22 : decode cX3_push 22 = .ok (.getfield 18, 3) := by decide +kernel
theorem dX3_push_25 : decode cX3_push 25 = .ok (.iconst 1, 1) := by decide +kernel
theorem dX3_push_26 : decode cX3_push 26 = .ok (.iadd, 1) := by decide +kernel
theorem dX3_push_27 : decode cX3_push 27 = .ok (.putfield 18, 3) := by decide +kernel
theorem dX3_push_30 : decode cX3_push 30 = .ok (.return_, 1) := by decide +kernel
theorem dX3_pop_0 : decode cX3_pop 0 = .ok (.aload_n 0, 1) := by decide +kernel
theorem dX3_pop_1 : decode cX3_pop 1 = .ok (.getfield 18, 3) := by decide +kernel
theorem dX3_pop_4 : decode cX3_pop 4 = .ok (.ifCond .ne 5, 3) := by decide +kernel
theorem dX3_pop_7 : decode cX3_pop 7 = .ok (.iconst 0, 1) := by decide +kernel
theorem dX3_pop_8 : decode cX3_pop 8 = .ok (.ireturn, 1) := by decide +kernel
theorem dX3_pop_9 : decode cX3_pop 9 = .ok (.aload_n 0, 1) := by decide +kernel
theorem dX3_pop_10 : decode cX3_pop 10 = .ok (.dup, 1) := by decide +kernel
theorem dX3_pop_11 : decode cX3_pop 11 = .ok (.getfield 18, 3) := by decide +kernel
theorem dX3_pop_14 : decode cX3_pop 14 = .ok (.iconst 1, 1) := by decide +kernel
theorem dX3_pop_15 : decode cX3_pop 15 = .ok (.isub, 1) := by decide +kernel
theorem dX3_pop_16 : decode cX3_pop 16 = .ok (.putfield 18, 3) := by decide +kernel
theorem dX3_pop_19 : decode cX3_pop 19 = .ok (.aload_n 0, 1) := by decide +kernel
theorem dX3_pop_20 : decode cX3_pop 20 = .ok (.getfield 11, 3) := by decide +kernel
theorem dX3_pop_23 : decode cX3_pop 23 = .ok (.aload_n 0, 1) := by decide +kernel
theorem dX3_pop_24 : decode cX3_pop 24 = .ok (.getfield 18, 3) := by decide +kernel
theorem dX3_pop_27 : decode cX3_pop 27 = .ok (.iaload, 1) := by decide +kernel
theorem dX3_pop_28 : decode cX3_pop 28 = .ok (.ireturn, 1) := by decide +kernel
theorem dX3_combine_0 : decode cX3_combine 0 = .ok (.iload_n 0, 1) := by decide +kernel
theorem dX3_combine_1 : decode cX3_combine 1 = .ok (.tableswitch 155 (-19) (-9) #[151, 139, 127, 115, 109, 103, 87, 71, 67, 63, 59], 59) := by decide +kernel
theorem dX3_combine_60 : decode cX3_combine 60 = .ok (.lload_n 1, 1) := by decide +kernel
theorem dX3_combine_61 : decode cX3_combine 61 = .ok (.lload_n 3, 1) := by decide +kernel
theorem dX3_combine_62 : decode cX3_combine 62 = .ok (.ladd, 1) := by decide +kernel
theorem dX3_combine_63 : decode cX3_combine 63 = .ok (.lreturn, 1) := by decide +kernel
theorem dX3_combine_64 : decode cX3_combine 64 = .ok (.lload_n 1, 1) := by decide +kernel
theorem dX3_combine_65 : decode cX3_combine 65 = .ok (.lload_n 3, 1) := by decide +kernel
theorem dX3_combine_66 : decode cX3_combine 66 = .ok (.lsub, 1) := by decide +kernel
theorem dX3_combine_67 : decode cX3_combine 67 = .ok (.lreturn, 1) := by decide +kernel
theorem dX3_combine_68 : decode cX3_combine 68 = .ok (.lload_n 1, 1) := by decide +kernel
theorem dX3_combine_69 : decode cX3_combine 69 = .ok (.lload_n 3, 1) := by decide +kernel
theorem dX3_combine_70 : decode cX3_combine 70 = .ok (.lmul, 1) := by decide +kernel
theorem dX3_combine_71 : decode cX3_combine 71 = .ok (.lreturn, 1) := by decide +kernel
theorem dX3_combine_72 : decode cX3_combine 72 = .ok (.lload_n 3, 1) := by decide +kernel
theorem dX3_combine_73 : decode cX3_combine 73 = .ok (.lconst 0, 1) := by decide +kernel
theorem dX3_combine_74 : decode cX3_combine 74 = .ok (.lcmp, 1) := by decide +kernel
theorem dX3_combine_75 : decode cX3_combine 75 = .ok (.ifCond .ne 7, 3) := by decide +kernel
theorem dX3_combine_78 : decode cX3_combine 78 = .ok (.lconst 0, 1) := by decide +kernel
theorem dX3_combine_79 : decode cX3_combine 79 = .ok (.goto 8, 3) := by decide +kernel
theorem dX3_combine_82 : decode cX3_combine 82 = .ok (.lload_n 1, 1) := by decide +kernel
theorem dX3_combine_83 : decode cX3_combine 83 = .ok (.lload_n 3, 1) := by decide +kernel
theorem dX3_combine_84 : decode cX3_combine 84 = .ok (.invokestatic 61, 3) := by decide +kernel
theorem dX3_combine_87 : decode cX3_combine 87 = .ok (.lreturn, 1) := by decide +kernel
theorem dX3_combine_88 : decode cX3_combine 88 = .ok (.lload_n 3, 1) := by decide +kernel
theorem dX3_combine_89 : decode cX3_combine 89 = .ok (.lconst 0, 1) := by decide +kernel
theorem dX3_combine_90 : decode cX3_combine 90 = .ok (.lcmp, 1) := by decide +kernel
theorem dX3_combine_91 : decode cX3_combine 91 = .ok (.ifCond .ne 7, 3) := by decide +kernel
theorem dX3_combine_94 : decode cX3_combine 94 = .ok (.lconst 0, 1) := by decide +kernel
theorem dX3_combine_95 : decode cX3_combine 95 = .ok (.goto 8, 3) := by decide +kernel
theorem dX3_combine_98 : decode cX3_combine 98 = .ok (.lload_n 1, 1) := by decide +kernel
theorem dX3_combine_99 : decode cX3_combine 99 = .ok (.lload_n 3, 1) := by decide +kernel
theorem dX3_combine_100 : decode cX3_combine 100 = .ok (.invokestatic 65, 3) := by decide +kernel
theorem dX3_combine_103 : decode cX3_combine 103 = .ok (.lreturn, 1) := by decide +kernel
theorem dX3_combine_104 : decode cX3_combine 104 = .ok (.lload_n 1, 1) := by decide +kernel
theorem dX3_combine_105 : decode cX3_combine 105 = .ok (.lload_n 3, 1) := by decide +kernel
theorem dX3_combine_106 : decode cX3_combine 106 = .ok (.invokestatic 68, 3) := by decide +kernel
theorem dX3_combine_109 : decode cX3_combine 109 = .ok (.lreturn, 1) := by decide +kernel
theorem dX3_combine_110 : decode cX3_combine 110 = .ok (.lload_n 1, 1) := by decide +kernel
theorem dX3_combine_111 : decode cX3_combine 111 = .ok (.lload_n 3, 1) := by decide +kernel
theorem dX3_combine_112 : decode cX3_combine 112 = .ok (.invokestatic 70, 3) := by decide +kernel
theorem dX3_combine_115 : decode cX3_combine 115 = .ok (.lreturn, 1) := by decide +kernel
theorem dX3_combine_116 : decode cX3_combine 116 = .ok (.lload_n 1, 1) := by decide +kernel
theorem dX3_combine_117 : decode cX3_combine 117 = .ok (.lload_n 3, 1) := by decide +kernel
theorem dX3_combine_118 : decode cX3_combine 118 = .ok (.lcmp, 1) := by decide +kernel
theorem dX3_combine_119 : decode cX3_combine 119 = .ok (.ifCond .ge 7, 3) := by decide +kernel
theorem dX3_combine_122 : decode cX3_combine 122 = .ok (.lconst 1, 1) := by decide +kernel
theorem dX3_combine_123 : decode cX3_combine 123 = .ok (.goto 4, 3) := by decide +kernel
theorem dX3_combine_126 : decode cX3_combine 126 = .ok (.lconst 0, 1) := by decide +kernel
theorem dX3_combine_127 : decode cX3_combine 127 = .ok (.lreturn, 1) := by decide +kernel
theorem dX3_combine_128 : decode cX3_combine 128 = .ok (.lload_n 1, 1) := by decide +kernel
theorem dX3_combine_129 : decode cX3_combine 129 = .ok (.lload_n 3, 1) := by decide +kernel
theorem dX3_combine_130 : decode cX3_combine 130 = .ok (.lcmp, 1) := by decide +kernel
theorem dX3_combine_131 : decode cX3_combine 131 = .ok (.ifCond .le 7, 3) := by decide +kernel
theorem dX3_combine_134 : decode cX3_combine 134 = .ok (.lconst 1, 1) := by decide +kernel
theorem dX3_combine_135 : decode cX3_combine 135 = .ok (.goto 4, 3) := by decide +kernel
theorem dX3_combine_138 : decode cX3_combine 138 = .ok (.lconst 0, 1) := by decide +kernel
theorem dX3_combine_139 : decode cX3_combine 139 = .ok (.lreturn, 1) := by decide +kernel
theorem dX3_combine_140 : decode cX3_combine 140 = .ok (.lload_n 1, 1) := by decide +kernel
theorem dX3_combine_141 : decode cX3_combine 141 = .ok (.lload_n 3, 1) := by decide +kernel
theorem dX3_combine_142 : decode cX3_combine 142 = .ok (.lcmp, 1) := by decide +kernel
theorem dX3_combine_143 : decode cX3_combine 143 = .ok (.ifCond .ne 7, 3) := by decide +kernel
theorem dX3_combine_146 : decode cX3_combine 146 = .ok (.lconst 1, 1) := by decide +kernel
theorem dX3_combine_147 : decode cX3_combine 147 = .ok (.goto 4, 3) := by decide +kernel
theorem dX3_combine_150 : decode cX3_combine 150 = .ok (.lconst 0, 1) := by decide +kernel
theorem dX3_combine_151 : decode cX3_combine 151 = .ok (.lreturn, 1) := by decide +kernel
theorem dX3_combine_152 : decode cX3_combine 152 = .ok (.lload_n 1, 1) := by decide +kernel
theorem dX3_combine_153 : decode cX3_combine 153 = .ok (.lload_n 3, 1) := by decide +kernel
theorem dX3_combine_154 : decode cX3_combine 154 = .ok (.land, 1) := by decide +kernel
theorem dX3_combine_155 : decode cX3_combine 155 = .ok (.lreturn, 1) := by decide +kernel
theorem dX3_combine_156 : decode cX3_combine 156 = .ok (.lload_n 1, 1) := by decide +kernel
theorem dX3_combine_157 : decode cX3_combine 157 = .ok (.lload_n 3, 1) := by decide +kernel
theorem dX3_combine_158 : decode cX3_combine 158 = .ok (.lor, 1) := by decide +kernel
theorem dX3_combine_159 : decode cX3_combine 159 = .ok (.lreturn, 1) := by decide +kernel
theorem dX3_limited_0 : decode cX3_limited 0 = .ok (.ldc2_w 72, 3) := by decide +kernel
theorem dX3_limited_3 : decode cX3_limited 3 = .ok (.ldc2_w 74, 3) := by decide +kernel
theorem dX3_limited_6 : decode cX3_limited 6 = .ok (.lload_n 0, 1) := by decide +kernel
theorem dX3_limited_7 : decode cX3_limited 7 = .ok (.invokestatic 68, 3) := by decide +kernel
theorem dX3_limited_10 : decode cX3_limited 10 = .ok (.invokestatic 70, 3) := by decide +kernel
theorem dX3_limited_13 : decode cX3_limited 13 = .ok (.l2i, 1) := by decide +kernel
theorem dX3_limited_14 : decode cX3_limited 14 = .ok (.ireturn, 1) := by decide +kernel
theorem dX4_init_0 : decode cX4_init 0 = .ok (.aload_n 0, 1) := by decide +kernel
theorem dX4_init_1 : decode cX4_init 1 = .ok (.invokespecial 3, 3) := by decide +kernel
theorem dX4_init_4 : decode cX4_init 4 = .ok (.aload_n 0, 1) := by decide +kernel
theorem dX4_init_5 : decode cX4_init 5 = .ok (.bipush 8, 2) := by decide +kernel
theorem dX4_init_7 : decode cX4_init 7 = .ok (.newarray .int, 2) := by decide +kernel
theorem dX4_init_9 : decode cX4_init 9 = .ok (.putfield 9, 3) := by decide +kernel
theorem dX4_init_12 : decode cX4_init 12 = .ok (.aload_n 0, 1) := by decide +kernel
theorem dX4_init_13 : decode cX4_init 13 = .ok (.bipush 8, 2) := by decide +kernel
theorem dX4_init_15 : decode cX4_init 15 = .ok (.newarray .int, 2) := by decide +kernel
theorem dX4_init_17 : decode cX4_init 17 = .ok (.putfield 15, 3) := by decide +kernel
theorem dX4_init_20 : decode cX4_init 20 = .ok (.aload_n 0, 1) := by decide +kernel
theorem dX4_init_21 : decode cX4_init 21 = .ok (.bipush 8, 2) := by decide +kernel
theorem dX4_init_23 : decode cX4_init 23 = .ok (.newarray .int, 2) := by decide +kernel
theorem dX4_init_25 : decode cX4_init 25 = .ok (.putfield 18, 3) := by decide +kernel
theorem dX4_init_28 : decode cX4_init 28 = .ok (.aload_n 0, 1) := by decide +kernel
theorem dX4_init_29 : decode cX4_init 29 = .ok (.sipush 2048, 3) := by decide +kernel
theorem dX4_init_32 : decode cX4_init 32 = .ok (.newarray .int, 2) := by decide +kernel
theorem dX4_init_34 : decode cX4_init 34 = .ok (.putfield 21, 3) := by decide +kernel
theorem dX4_init_37 : decode cX4_init 37 = .ok (.return_, 1) := by decide +kernel
theorem dX4_takeRows_0 : decode cX4_takeRows 0 = .ok (.iload_n 2, 1) := by decide +kernel
theorem dX4_takeRows_1 : decode cX4_takeRows 1 = .ok (.iconst 2, 1) := by decide +kernel
theorem dX4_takeRows_2 : decode cX4_takeRows 2 = .ok (.if_icmp .lt 15, 3) := by decide +kernel
theorem dX4_takeRows_5 : decode cX4_takeRows 5 = .ok (.iload_n 2, 1) := by decide +kernel
theorem dX4_takeRows_6 : decode cX4_takeRows 6 = .ok (.bipush 16, 2) := by decide +kernel
theorem dX4_takeRows_8 : decode cX4_takeRows 8 = .ok (.if_icmp .gt 9, 3) := by decide +kernel
theorem dX4_takeRows_11 : decode cX4_takeRows 11 = .ok (.iload_n 2, 1) := by decide +kernel
theorem dX4_takeRows_12 : decode cX4_takeRows 12 = .ok (.iconst 2, 1) := by decide +kernel
theorem dX4_takeRows_13 : decode cX4_takeRows 13 = .ok (.irem, 1) := by decide +kernel
theorem dX4_takeRows_14 : decode cX4_takeRows 14 = .ok (.ifCond .eq 5, 3) := by decide +kernel
theorem dX4_takeRows_17 : decode cX4_takeRows 17 = .ok (.iconst 0, 1) := by decide +kernel
theorem dX4_takeRows_18 : decode cX4_takeRows 18 = .ok (.ireturn, 1) := by decide +kernel
theorem dX4_takeRows_19 : decode cX4_takeRows 19 = .ok (.aload_n 0, 1) := by decide +kernel
theorem dX4_takeRows_20 : decode cX4_takeRows 20 = .ok (.getfield 9, 3) := by decide +kernel
theorem dX4_takeRows_23 : decode cX4_takeRows 23 = .ok (.iconst (-1), 1) := by decide +kernel
theorem dX4_takeRows_24 : decode cX4_takeRows 24 = .ok (.invokestatic 24, 3) := by decide +kernel
theorem dX4_takeRows_27 : decode cX4_takeRows 27 = .ok (.iconst 0, 1) := by decide +kernel
theorem dX4_takeRows_28 : decode cX4_takeRows 28 = .ok (.istore 4, 2) := by decide +kernel
theorem dX4_takeRows_30 : decode cX4_takeRows 30 = .ok (.iload 4, 2) := by decide +kernel
theorem dX4_takeRows_32 : decode cX4_takeRows 32 = .ok (.iload_n 2, 1) := by decide +kernel
theorem dX4_takeRows_33 : decode cX4_takeRows 33 = .ok (.if_icmp .ge 63, 3) := by decide +kernel
theorem dX4_takeRows_36 : decode cX4_takeRows 36 = .ok (.aload_n 1, 1) := by decide +kernel
theorem dX4_takeRows_37 : decode cX4_takeRows 37 = .ok (.iload 4, 2) := by decide +kernel
theorem dX4_takeRows_39 : decode cX4_takeRows 39 = .ok (.iaload, 1) := by decide +kernel
theorem dX4_takeRows_40 : decode cX4_takeRows 40 = .ok (.istore 5, 2) := by decide +kernel
theorem dX4_takeRows_42 : decode cX4_takeRows 42 = .ok (.aload_n 3, 1) := by decide +kernel
theorem dX4_takeRows_43 : decode cX4_takeRows 43 = .ok (.iload 5, 2) := by decide +kernel
theorem dX4_takeRows_45 : decode cX4_takeRows 45 = .ok (.invokevirtual 30, 3) := by decide +kernel
theorem dX4_takeRows_48 : decode cX4_takeRows 48 = .ok (.ifCond .eq 27, 3) := by decide +kernel
theorem dX4_takeRows_51 : decode cX4_takeRows 51 = .ok (.aload_n 0, 1) := by decide +kernel
theorem dX4_takeRows_52 : decode cX4_takeRows 52 = .ok (.getfield 9, 3) := by decide +kernel
theorem dX4_takeRows_55 : decode cX4_takeRows 55 = .ok (.iload 5, 2) := by decide +kernel
theorem dX4_takeRows_57 : decode cX4_takeRows 57 = .ok (.iaload, 1) := by decide +kernel
theorem dX4_takeRows_58 : decode cX4_takeRows 58 = .ok (.iconst (-1), 1) := by decide +kernel
theorem dX4_takeRows_59 : decode cX4_takeRows 59 = .ok (.if_icmp .ne 16, 3) := by decide +kernel
theorem dX4_takeRows_62 : decode cX4_takeRows 62 = .ok (.aload_n 3, 1) := by decide +kernel
theorem dX4_takeRows_63 : decode cX4_takeRows 63 = .ok (.aload_n 1, 1) := by decide +kernel
theorem dX4_takeRows_64 : decode cX4_takeRows 64 = .ok (.iload 4, 2) := by decide +kernel
theorem dX4_takeRows_66 : decode cX4_takeRows 66 = .ok (.iconst 1, 1) := by decide +kernel
theorem dX4_takeRows_67 : decode cX4_takeRows 67 = .ok (.iadd, 1) := by decide +kernel
theorem dX4_takeRows_68 : decode cX4_takeRows 68 = .ok (.iaload, 1) := by decide +kernel
theorem dX4_takeRows_69 : decode cX4_takeRows 69 = .ok (.invokevirtual 36, 3) := by decide +kernel
theorem dX4_takeRows_72 : decode cX4_takeRows 72 = .ok (.ifCond .ne 5, 3) := by decide +kernel
theorem dX4_takeRows_75 : decode cX4_takeRows 75 = .ok (.iconst 0, 1) := by decide +kernel
theorem dX4_takeRows_76 : decode cX4_takeRows 76 = .ok (.ireturn, 1) := by decide +kernel
theorem dX4_takeRows_77 : decode cX4_takeRows 77 = .ok (.aload_n 0, 1) := by decide +kernel
theorem dX4_takeRows_78 : decode cX4_takeRows 78 = .ok (.getfield 9, 3) := by decide +kernel
theorem dX4_takeRows_81 : decode cX4_takeRows 81 = .ok (.iload 5, 2) := by decide +kernel
theorem dX4_takeRows_83 : decode cX4_takeRows 83 = .ok (.aload_n 1, 1) := by decide +kernel
theorem dX4_takeRows_84 : decode cX4_takeRows 84 = .ok (.iload 4, 2) := by decide +kernel
theorem dX4_takeRows_86 : decode cX4_takeRows 86 = .ok (.iconst 1, 1) := by decide +kernel
theorem dX4_takeRows_87 : decode cX4_takeRows 87 = .ok (.iadd, 1) := by decide +kernel
theorem dX4_takeRows_88 : decode cX4_takeRows 88 = .ok (.iaload, 1) := by decide +kernel
theorem dX4_takeRows_89 : decode cX4_takeRows 89 = .ok (.iastore, 1) := by decide +kernel
theorem dX4_takeRows_90 : decode cX4_takeRows 90 = .ok (.iinc 4 2, 3) := by decide +kernel
theorem dX4_takeRows_93 : decode cX4_takeRows 93 = .ok (.goto (-63), 3) := by decide +kernel
theorem dX4_takeRows_96 : decode cX4_takeRows 96 = .ok (.iconst 1, 1) := by decide +kernel
theorem dX4_takeRows_97 : decode cX4_takeRows 97 = .ok (.ireturn, 1) := by decide +kernel
theorem dX4_fewest_0 : decode cX4_fewest 0 = .ok (.aload_n 0, 1) := by decide +kernel
theorem dX4_fewest_1 : decode cX4_fewest 1 = .ok (.aload_n 1, 1) := by decide +kernel
theorem dX4_fewest_2 : decode cX4_fewest 2 = .ok (.putfield 39, 3) := by decide +kernel
theorem dX4_fewest_5 : decode cX4_fewest 5 = .ok (.aload_n 0, 1) := by decide +kernel
theorem dX4_fewest_6 : decode cX4_fewest 6 = .ok (.invokevirtual 43, 3) := by decide +kernel
theorem dX4_fewest_9 : decode cX4_fewest 9 = .ok (.ifCond .eq 5, 3) := by decide +kernel
theorem dX4_fewest_12 : decode cX4_fewest 12 = .ok (.iconst (-1), 1) := by decide +kernel
theorem dX4_fewest_13 : decode cX4_fewest 13 = .ok (.ireturn, 1) := by decide +kernel
theorem dX4_fewest_14 : decode cX4_fewest 14 = .ok (.iconst 0, 1) := by decide +kernel
theorem dX4_fewest_15 : decode cX4_fewest 15 = .ok (.istore_n 2, 1) := by decide +kernel
theorem dX4_fewest_16 : decode cX4_fewest 16 = .ok (.iload_n 2, 1) := by decide +kernel
theorem dX4_fewest_17 : decode cX4_fewest 17 = .ok (.aload_n 0, 1) := by decide +kernel
theorem dX4_fewest_18 : decode cX4_fewest 18 = .ok (.getfield 39, 3) := by decide +kernel
theorem dX4_fewest_21 : decode cX4_fewest 21 = .ok (.getfield 47, 3) := by decide +kernel
theorem dX4_fewest_24 : decode cX4_fewest 24 = .ok (.getfield 51, 3) := by decide +kernel
theorem dX4_fewest_27 : decode cX4_fewest 27 = .ok (.if_icmp .ge 37, 3) := by decide +kernel
theorem dX4_fewest_30 : decode cX4_fewest 30 = .ok (.aload_n 0, 1) := by decide +kernel
theorem dX4_fewest_31 : decode cX4_fewest 31 = .ok (.getfield 15, 3) := by decide +kernel
theorem dX4_fewest_34 : decode cX4_fewest 34 = .ok (.iload_n 2, 1) := by decide +kernel
theorem dX4_fewest_35 : decode cX4_fewest 35 = .ok (.aload_n 0, 1) := by decide +kernel
theorem dX4_fewest_36 : decode cX4_fewest 36 = .ok (.getfield 39, 3) := by decide +kernel
theorem dX4_fewest_39 : decode cX4_fewest 39 = .ok (.iload_n 2, 1) := by decide +kernel
theorem dX4_fewest_40 : decode cX4_fewest 40 = .ok (.invokevirtual 57, 3) := by decide +kernel
theorem dX4_fewest_43 : decode cX4_fewest 43 = .ok (.iastore, 1) := by decide +kernel
theorem dX4_fewest_44 : decode cX4_fewest 44 = .ok (.aload_n 0, 1) := by decide +kernel
theorem dX4_fewest_45 : decode cX4_fewest 45 = .ok (.getfield 18, 3) := by decide +kernel
theorem dX4_fewest_48 : decode cX4_fewest 48 = .ok (.iload_n 2, 1) := by decide +kernel
theorem dX4_fewest_49 : decode cX4_fewest 49 = .ok (.aload_n 0, 1) := by decide +kernel
theorem dX4_fewest_50 : decode cX4_fewest 50 = .ok (.getfield 39, 3) := by decide +kernel
theorem dX4_fewest_53 : decode cX4_fewest 53 = .ok (.iload_n 2, 1) := by decide +kernel
theorem dX4_fewest_54 : decode cX4_fewest 54 = .ok (.invokevirtual 61, 3) := by decide +kernel
theorem dX4_fewest_57 : decode cX4_fewest 57 = .ok (.iastore, 1) := by decide +kernel
theorem dX4_fewest_58 : decode cX4_fewest 58 = .ok (.iinc 2 1, 3) := by decide +kernel
theorem dX4_fewest_61 : decode cX4_fewest 61 = .ok (.goto (-45), 3) := by decide +kernel
theorem dX4_fewest_64 : decode cX4_fewest 64 = .ok (.iconst 0, 1) := by decide +kernel
theorem dX4_fewest_65 : decode cX4_fewest 65 = .ok (.istore_n 2, 1) := by decide +kernel
theorem dX4_fewest_66 : decode cX4_fewest 66 = .ok (.iload_n 2, 1) := by decide +kernel
theorem dX4_fewest_67 : decode cX4_fewest 67 = .ok (.iconst 4, 1) := by decide +kernel
theorem dX4_fewest_68 : decode cX4_fewest 68 = .ok (.if_icmp .gt 24, 3) := by decide +kernel
theorem dX4_fewest_71 : decode cX4_fewest 71 = .ok (.aload_n 0, 1) := by decide +kernel
theorem dX4_fewest_72 : decode cX4_fewest 72 = .ok (.iload_n 2, 1) := by decide +kernel
theorem dX4_fewest_73 : decode cX4_fewest 73 = .ok (.invokevirtual 64, 3) := by decide +kernel
theorem dX4_fewest_76 : decode cX4_fewest 76 = .ok (.aload_n 0, 1) := by decide +kernel
theorem dX4_fewest_77 : decode cX4_fewest 77 = .ok (.iload_n 2, 1) := by decide +kernel
theorem dX4_fewest_78 : decode cX4_fewest 78 = .ok (.invokevirtual 68, 3) := by decide +kernel
theorem dX4_fewest_81 : decode cX4_fewest 81 = .ok (.ifCond .eq 5, 3) := by decide +kernel
theorem dX4_fewest_84 : decode cX4_fewest 84 = .ok (.iload_n 2, 1) := by decide +kernel
theorem dX4_fewest_85 : decode cX4_fewest 85 = .ok (.ireturn, 1) := by decide +kernel
theorem dX4_fewest_86 : decode cX4_fewest 86 = .ok (.iinc 2 1, 3) := by decide +kernel
theorem dX4_fewest_89 : decode cX4_fewest 89 = .ok (.goto (-23), 3) := by decide +kernel
theorem dX4_fewest_92 : decode cX4_fewest 92 = .ok (.iconst (-1), 1) := by decide +kernel
theorem dX4_fewest_93 : decode cX4_fewest 93 = .ok (.ireturn, 1) := by decide +kernel
theorem dX4_hasHeavyStray_0 : decode cX4_hasHeavyStray 0 = .ok (.iconst 0, 1) := by decide +kernel
theorem dX4_hasHeavyStray_1 : decode cX4_hasHeavyStray 1 = .ok (.istore_n 1, 1) := by decide +kernel
theorem dX4_hasHeavyStray_2 : decode cX4_hasHeavyStray 2 = .ok (.iload_n 1, 1) := by decide +kernel
theorem dX4_hasHeavyStray_3 : decode cX4_hasHeavyStray 3 = .ok (.aload_n 0, 1) := by decide +kernel
theorem dX4_hasHeavyStray_4 : decode cX4_hasHeavyStray 4 = .ok (.getfield 39, 3) := by decide +kernel
theorem dX4_hasHeavyStray_7 : decode cX4_hasHeavyStray 7 = .ok (.getfield 47, 3) := by decide +kernel
theorem dX4_hasHeavyStray_10 : decode cX4_hasHeavyStray 10 = .ok (.getfield 71, 3) := by decide +kernel
theorem dX4_hasHeavyStray_13 : decode cX4_hasHeavyStray 13 = .ok (.if_icmp .ge 50, 3) := by decide +kernel
theorem dX4_hasHeavyStray_16 : decode cX4_hasHeavyStray 16 = .ok (.aload_n 0, 1) := by decide +kernel
theorem dX4_hasHeavyStray_17 : decode cX4_hasHeavyStray 17 = .ok (.iload_n 1, 1) := by decide +kernel
theorem dX4_hasHeavyStray_18 : decode cX4_hasHeavyStray 18 = .ok (.aload_n 0, 1) := by decide +kernel
theorem dX4_hasHeavyStray_19 : decode cX4_hasHeavyStray 19 = .ok (.getfield 39, 3) := by decide +kernel
theorem dX4_hasHeavyStray_22 : decode cX4_hasHeavyStray 22 = .ok (.getfield 74, 3) := by decide +kernel
theorem dX4_hasHeavyStray_25 : decode cX4_hasHeavyStray 25 = .ok (.iload_n 1, 1) := by decide +kernel
theorem dX4_hasHeavyStray_26 : decode cX4_hasHeavyStray 26 = .ok (.iaload, 1) := by decide +kernel
theorem dX4_hasHeavyStray_27 : decode cX4_hasHeavyStray 27 = .ok (.invokevirtual 77, 3) := by decide +kernel
theorem dX4_hasHeavyStray_30 : decode cX4_hasHeavyStray 30 = .ok (.ifCond .eq 27, 3) := by decide +kernel
theorem dX4_hasHeavyStray_33 : decode cX4_hasHeavyStray 33 = .ok (.aload_n 0, 1) := by decide +kernel
theorem dX4_hasHeavyStray_34 : decode cX4_hasHeavyStray 34 = .ok (.getfield 39, 3) := by decide +kernel
theorem dX4_hasHeavyStray_37 : decode cX4_hasHeavyStray 37 = .ok (.getfield 81, 3) := by decide +kernel
theorem dX4_hasHeavyStray_40 : decode cX4_hasHeavyStray 40 = .ok (.iload_n 1, 1) := by decide +kernel
theorem dX4_hasHeavyStray_41 : decode cX4_hasHeavyStray 41 = .ok (.iaload, 1) := by decide +kernel
theorem dX4_hasHeavyStray_42 : decode cX4_hasHeavyStray 42 = .ok (.aload_n 0, 1) := by decide +kernel
theorem dX4_hasHeavyStray_43 : decode cX4_hasHeavyStray 43 = .ok (.getfield 39, 3) := by decide +kernel
theorem dX4_hasHeavyStray_46 : decode cX4_hasHeavyStray 46 = .ok (.getfield 47, 3) := by decide +kernel
theorem dX4_hasHeavyStray_49 : decode cX4_hasHeavyStray 49 = .ok (.getfield 84, 3) := by decide +kernel
theorem dX4_hasHeavyStray_52 : decode cX4_hasHeavyStray 52 = .ok (.if_icmp .le 5, 3) := by decide +kernel
theorem dX4_hasHeavyStray_55 : decode cX4_hasHeavyStray 55 = .ok (.iconst 1, 1) := by decide +kernel
theorem dX4_hasHeavyStray_56 : decode cX4_hasHeavyStray 56 = .ok (.ireturn, 1) := by decide +kernel
theorem dX4_hasHeavyStray_57 : decode cX4_hasHeavyStray 57 = .ok (.iinc 1 1, 3) := by decide +kernel
theorem dX4_hasHeavyStray_60 : decode cX4_hasHeavyStray 60 = .ok (.goto (-58), 3) := by decide +kernel
theorem dX4_hasHeavyStray_63 : decode cX4_hasHeavyStray 63 = .ok (.iconst 0, 1) := by decide +kernel
theorem dX4_hasHeavyStray_64 : decode cX4_hasHeavyStray 64 = .ok (.ireturn, 1) := by decide +kernel
theorem dX4_isAstray_0 : decode cX4_isAstray 0 = .ok (.aload_n 0, 1) := by decide +kernel
theorem dX4_isAstray_1 : decode cX4_isAstray 1 = .ok (.getfield 9, 3) := by decide +kernel
theorem dX4_isAstray_4 : decode cX4_isAstray 4 = .ok (.iload_n 1, 1) := by decide +kernel
theorem dX4_isAstray_5 : decode cX4_isAstray 5 = .ok (.iaload, 1) := by decide +kernel
theorem dX4_isAstray_6 : decode cX4_isAstray 6 = .ok (.iconst (-1), 1) := by decide +kernel
theorem dX4_isAstray_7 : decode cX4_isAstray 7 = .ok (.if_icmp .eq 17, 3) := by decide +kernel
theorem dX4_isAstray_10 : decode cX4_isAstray 10 = .ok (.aload_n 0, 1) := by decide +kernel
theorem dX4_isAstray_11 : decode cX4_isAstray 11 = .ok (.getfield 9, 3) := by decide +kernel
theorem dX4_isAstray_14 : decode cX4_isAstray 14 = .ok (.iload_n 1, 1) := by decide +kernel
theorem dX4_isAstray_15 : decode cX4_isAstray 15 = .ok (.iaload, 1) := by decide +kernel
theorem dX4_isAstray_16 : decode cX4_isAstray 16 = .ok (.iload_n 2, 1) := by decide +kernel
theorem dX4_isAstray_17 : decode cX4_isAstray 17 = .ok (.if_icmp .eq 7, 3) := by decide +kernel
theorem dX4_isAstray_20 : decode cX4_isAstray 20 = .ok (.iconst 1, 1) := by decide +kernel
theorem dX4_isAstray_21 : decode cX4_isAstray 21 = .ok (.goto 4, 3) := by decide +kernel
theorem dX4_isAstray_24 : decode cX4_isAstray 24 = .ok (.iconst 0, 1) := by decide +kernel
theorem dX4_isAstray_25 : decode cX4_isAstray 25 = .ok (.ireturn, 1) := by decide +kernel
theorem dX4_strayCount_0 : decode cX4_strayCount 0 = .ok (.iconst 0, 1) := by decide +kernel
theorem dX4_strayCount_1 : decode cX4_strayCount 1 = .ok (.istore_n 1, 1) := by decide +kernel
theorem dX4_strayCount_2 : decode cX4_strayCount 2 = .ok (.iconst 0, 1) := by decide +kernel
theorem dX4_strayCount_3 : decode cX4_strayCount 3 = .ok (.istore_n 2, 1) := by decide +kernel
theorem dX4_strayCount_4 : decode cX4_strayCount 4 = .ok (.iload_n 2, 1) := by decide +kernel
theorem dX4_strayCount_5 : decode cX4_strayCount 5 = .ok (.aload_n 0, 1) := by decide +kernel
theorem dX4_strayCount_6 : decode cX4_strayCount 6 = .ok (.getfield 39, 3) := by decide +kernel
theorem dX4_strayCount_9 : decode cX4_strayCount 9 = .ok (.getfield 47, 3) := by decide +kernel
theorem dX4_strayCount_12 : decode cX4_strayCount 12 = .ok (.getfield 71, 3) := by decide +kernel
theorem dX4_strayCount_15 : decode cX4_strayCount 15 = .ok (.if_icmp .ge 34, 3) := by decide +kernel
theorem dX4_strayCount_18 : decode cX4_strayCount 18 = .ok (.iload_n 1, 1) := by decide +kernel
theorem dX4_strayCount_19 : decode cX4_strayCount 19 = .ok (.aload_n 0, 1) := by decide +kernel
theorem dX4_strayCount_20 : decode cX4_strayCount 20 = .ok (.iload_n 2, 1) := by decide +kernel
theorem dX4_strayCount_21 : decode cX4_strayCount 21 = .ok (.aload_n 0, 1) := by decide +kernel
theorem dX4_strayCount_22 : decode cX4_strayCount 22 = .ok (.getfield 39, 3) := by decide +kernel
theorem dX4_strayCount_25 : decode cX4_strayCount 25 = .ok (.getfield 74, 3) := by decide +kernel
theorem dX4_strayCount_28 : decode cX4_strayCount 28 = .ok (.iload_n 2, 1) := by decide +kernel
theorem dX4_strayCount_29 : decode cX4_strayCount 29 = .ok (.iaload, 1) := by decide +kernel
theorem dX4_strayCount_30 : decode cX4_strayCount 30 = .ok (.invokevirtual 77, 3) := by decide +kernel
theorem dX4_strayCount_33 : decode cX4_strayCount 33 = .ok (.ifCond .eq 7, 3) := by decide +kernel
theorem dX4_strayCount_36 : decode cX4_strayCount 36 = .ok (.iconst 1, 1) := by decide +kernel
theorem dX4_strayCount_37 : decode cX4_strayCount 37 = .ok (.goto 4, 3) := by decide +kernel
theorem dX4_strayCount_40 : decode cX4_strayCount 40 = .ok (.iconst 0, 1) := by decide +kernel
theorem dX4_strayCount_41 : decode cX4_strayCount 41 = .ok (.iadd, 1) := by decide +kernel
theorem dX4_strayCount_42 : decode cX4_strayCount 42 = .ok (.istore_n 1, 1) := by decide +kernel
theorem dX4_strayCount_43 : decode cX4_strayCount 43 = .ok (.iinc 2 1, 3) := by decide +kernel
theorem dX4_strayCount_46 : decode cX4_strayCount 46 = .ok (.goto (-42), 3) := by decide +kernel
theorem dX4_strayCount_49 : decode cX4_strayCount 49 = .ok (.iload_n 1, 1) := by decide +kernel
theorem dX4_strayCount_50 : decode cX4_strayCount 50 = .ok (.ireturn, 1) := by decide +kernel
theorem dX4_reaches_0 : decode cX4_reaches 0 = .ok (.aload_n 0, 1) := by decide +kernel
theorem dX4_reaches_1 : decode cX4_reaches 1 = .ok (.invokevirtual 87, 3) := by decide +kernel
theorem dX4_reaches_4 : decode cX4_reaches 4 = .ok (.istore_n 2, 1) := by decide +kernel
theorem dX4_reaches_5 : decode cX4_reaches 5 = .ok (.iload_n 2, 1) := by decide +kernel
theorem dX4_reaches_6 : decode cX4_reaches 6 = .ok (.ifCond .eq 8, 3) := by decide +kernel
theorem dX4_reaches_9 : decode cX4_reaches 9 = .ok (.iload_n 2, 1) := by decide +kernel
theorem dX4_reaches_10 : decode cX4_reaches 10 = .ok (.iload_n 1, 1) := by decide +kernel
theorem dX4_reaches_11 : decode cX4_reaches 11 = .ok (.if_icmp .le 13, 3) := by decide +kernel
theorem dX4_reaches_14 : decode cX4_reaches 14 = .ok (.iload_n 2, 1) := by decide +kernel
theorem dX4_reaches_15 : decode cX4_reaches 15 = .ok (.ifCond .ne 7, 3) := by decide +kernel
theorem dX4_reaches_18 : decode cX4_reaches 18 = .ok (.iconst 1, 1) := by decide +kernel
theorem dX4_reaches_19 : decode cX4_reaches 19 = .ok (.goto 4, 3) := by decide +kernel
theorem dX4_reaches_22 : decode cX4_reaches 22 = .ok (.iconst 0, 1) := by decide +kernel
theorem dX4_reaches_23 : decode cX4_reaches 23 = .ok (.ireturn, 1) := by decide +kernel
theorem dX4_reaches_24 : decode cX4_reaches 24 = .ok (.iload_n 2, 1) := by decide +kernel
theorem dX4_reaches_25 : decode cX4_reaches 25 = .ok (.iload_n 1, 1) := by decide +kernel
theorem dX4_reaches_26 : decode cX4_reaches 26 = .ok (.if_icmp .ne 9, 3) := by decide +kernel
theorem dX4_reaches_29 : decode cX4_reaches 29 = .ok (.aload_n 0, 1) := by decide +kernel
theorem dX4_reaches_30 : decode cX4_reaches 30 = .ok (.iload_n 1, 1) := by decide +kernel
theorem dX4_reaches_31 : decode cX4_reaches 31 = .ok (.invokevirtual 91, 3) := by decide +kernel
theorem dX4_reaches_34 : decode cX4_reaches 34 = .ok (.ireturn, 1) := by decide +kernel
theorem dX4_reaches_35 : decode cX4_reaches 35 = .ok (.iload_n 1, 1) := by decide +kernel
theorem dX4_reaches_36 : decode cX4_reaches 36 = .ok (.iconst 2, 1) := by decide +kernel
theorem dX4_reaches_37 : decode cX4_reaches 37 = .ok (.if_icmp .ne 12, 3) := by decide +kernel
theorem dX4_reaches_40 : decode cX4_reaches 40 = .ok (.aload_n 0, 1) := by decide +kernel
theorem dX4_reaches_41 : decode cX4_reaches 41 = .ok (.invokevirtual 94, 3) := by decide +kernel
theorem dX4_reaches_44 : decode cX4_reaches 44 = .ok (.ifCond .eq 5, 3) := by decide +kernel
theorem dX4_reaches_47 : decode cX4_reaches 47 = .ok (.iconst 0, 1) := by decide +kernel
theorem dX4_reaches_48 : decode cX4_reaches 48 = .ok (.ireturn, 1) := by decide +kernel
theorem dX4_reaches_49 : decode cX4_reaches 49 = .ok (.iconst 0, 1) := by decide +kernel
theorem dX4_reaches_50 : decode cX4_reaches 50 = .ok (.istore_n 3, 1) := by decide +kernel
theorem dX4_reaches_51 : decode cX4_reaches 51 = .ok (.iload_n 3, 1) := by decide +kernel
theorem dX4_reaches_52 : decode cX4_reaches 52 = .ok (.aload_n 0, 1) := by decide +kernel
theorem dX4_reaches_53 : decode cX4_reaches 53 = .ok (.getfield 39, 3) := by decide +kernel
theorem dX4_reaches_56 : decode cX4_reaches 56 = .ok (.getfield 47, 3) := by decide +kernel
theorem dX4_reaches_59 : decode cX4_reaches 59 = .ok (.getfield 71, 3) := by decide +kernel
theorem dX4_reaches_62 : decode cX4_reaches 62 = .ok (.if_icmp .ge 32, 3) := by decide +kernel
theorem dX4_reaches_65 : decode cX4_reaches 65 = .ok (.aload_n 0, 1) := by decide +kernel
theorem dX4_reaches_66 : decode cX4_reaches 66 = .ok (.getfield 39, 3) := by decide +kernel
theorem dX4_reaches_69 : decode cX4_reaches 69 = .ok (.iload_n 3, 1) := by decide +kernel
theorem dX4_reaches_70 : decode cX4_reaches 70 = .ok (.invokevirtual 30, 3) := by decide +kernel
theorem dX4_reaches_73 : decode cX4_reaches 73 = .ok (.ifCond .eq 15, 3) := by decide +kernel
theorem dX4_reaches_76 : decode cX4_reaches 76 = .ok (.aload_n 0, 1) := by decide +kernel
theorem dX4_reaches_77 : decode cX4_reaches 77 = .ok (.iload_n 3, 1) := by decide +kernel
theorem dX4_reaches_78 : decode cX4_reaches 78 = .ok (.iload_n 1, 1) := by decide +kernel
theorem dX4_reaches_79 : decode cX4_reaches 79 = .ok (.iload_n 2, 1) := by decide +kernel
theorem dX4_reaches_80 : decode cX4_reaches 80 = .ok (.invokevirtual 97, 3) := by decide +kernel
theorem dX4_reaches_83 : decode cX4_reaches 83 = .ok (.ifCond .eq 5, 3) := by decide +kernel
theorem dX4_reaches_86 : decode cX4_reaches 86 = .ok (.iconst 1, 1) := by decide +kernel
theorem dX4_reaches_87 : decode cX4_reaches 87 = .ok (.ireturn, 1) := by decide +kernel
theorem dX4_reaches_88 : decode cX4_reaches 88 = .ok (.iinc 3 1, 3) := by decide +kernel
theorem dX4_reaches_91 : decode cX4_reaches 91 = .ok (.goto (-40), 3) := by decide +kernel
theorem dX4_reaches_94 : decode cX4_reaches 94 = .ok (.iconst 0, 1) := by decide +kernel
theorem dX4_reaches_95 : decode cX4_reaches 95 = .ok (.ireturn, 1) := by decide +kernel
theorem dX4_reachesStraight_0 : decode cX4_reachesStraight 0 = .ok (.iconst 0, 1) := by decide +kernel
theorem dX4_reachesStraight_1 : decode cX4_reachesStraight 1 = .ok (.istore_n 2, 1) := by decide +kernel
theorem dX4_reachesStraight_2 : decode cX4_reachesStraight 2 = .ok (.iload_n 2, 1) := by decide +kernel
theorem dX4_reachesStraight_3 : decode cX4_reachesStraight 3 = .ok (.aload_n 0, 1) := by decide +kernel
theorem dX4_reachesStraight_4 : decode cX4_reachesStraight 4 = .ok (.getfield 39, 3) := by decide +kernel
theorem dX4_reachesStraight_7 : decode cX4_reachesStraight 7 = .ok (.getfield 47, 3) := by decide +kernel
theorem dX4_reachesStraight_10 : decode cX4_reachesStraight 10 = .ok (.getfield 71, 3) := by decide +kernel
theorem dX4_reachesStraight_13 : decode cX4_reachesStraight 13 = .ok (.if_icmp .ge 43, 3) := by decide +kernel
theorem dX4_reachesStraight_16 : decode cX4_reachesStraight 16 = .ok (.aload_n 0, 1) := by decide +kernel
theorem dX4_reachesStraight_17 : decode cX4_reachesStraight 17 = .ok (.iload_n 2, 1) := by decide +kernel
theorem dX4_reachesStraight_18 : decode cX4_reachesStraight 18 = .ok (.aload_n 0, 1) := by decide +kernel
theorem dX4_reachesStraight_19 : decode cX4_reachesStraight 19 = .ok (.getfield 39, 3) := by decide +kernel
theorem dX4_reachesStraight_22 : decode cX4_reachesStraight 22 = .ok (.getfield 74, 3) := by decide +kernel
theorem dX4_reachesStraight_25 : decode cX4_reachesStraight 25 = .ok (.iload_n 2, 1) := by decide +kernel
theorem dX4_reachesStraight_26 : decode cX4_reachesStraight 26 = .ok (.iaload, 1) := by decide +kernel
theorem dX4_reachesStraight_27 : decode cX4_reachesStraight 27 = .ok (.invokevirtual 77, 3) := by decide +kernel
theorem dX4_reachesStraight_30 : decode cX4_reachesStraight 30 = .ok (.ifCond .eq 20, 3) := by decide +kernel
theorem dX4_reachesStraight_33 : decode cX4_reachesStraight 33 = .ok (.aload_n 0, 1) := by decide +kernel
theorem dX4_reachesStraight_34 : decode cX4_reachesStraight 34 = .ok (.iload_n 2, 1) := by decide +kernel
theorem dX4_reachesStraight_35 : decode cX4_reachesStraight 35 = .ok (.aload_n 0, 1) := by decide +kernel
theorem dX4_reachesStraight_36 : decode cX4_reachesStraight 36 = .ok (.getfield 9, 3) := by decide +kernel
theorem dX4_reachesStraight_39 : decode cX4_reachesStraight 39 = .ok (.iload_n 2, 1) := by decide +kernel
theorem dX4_reachesStraight_40 : decode cX4_reachesStraight 40 = .ok (.iaload, 1) := by decide +kernel
theorem dX4_reachesStraight_41 : decode cX4_reachesStraight 41 = .ok (.iload_n 1, 1) := by decide +kernel
theorem dX4_reachesStraight_42 : decode cX4_reachesStraight 42 = .ok (.invokevirtual 101, 3) := by decide +kernel
theorem dX4_reachesStraight_45 : decode cX4_reachesStraight 45 = .ok (.ifCond .eq 5, 3) := by decide +kernel
theorem dX4_reachesStraight_48 : decode cX4_reachesStraight 48 = .ok (.iconst 1, 1) := by decide +kernel
theorem dX4_reachesStraight_49 : decode cX4_reachesStraight 49 = .ok (.ireturn, 1) := by decide +kernel
theorem dX4_reachesStraight_50 : decode cX4_reachesStraight 50 = .ok (.iinc 2 1, 3) := by decide +kernel
theorem dX4_reachesStraight_53 : decode cX4_reachesStraight 53 = .ok (.goto (-51), 3) := by decide +kernel
theorem dX4_reachesStraight_56 : decode cX4_reachesStraight 56 = .ok (.iconst 0, 1) := by decide +kernel
theorem dX4_reachesStraight_57 : decode cX4_reachesStraight 57 = .ok (.ireturn, 1) := by decide +kernel
theorem dX4_reachesBy_0 : decode cX4_reachesBy 0 = .ok (.iload_n 3, 1) := by decide +kernel
theorem dX4_reachesBy_1 : decode cX4_reachesBy 1 = .ok (.aload_n 0, 1) := by decide +kernel
theorem dX4_reachesBy_2 : decode cX4_reachesBy 2 = .ok (.iload_n 1, 1) := by decide +kernel
theorem dX4_reachesBy_3 : decode cX4_reachesBy 3 = .ok (.aload_n 0, 1) := by decide +kernel
theorem dX4_reachesBy_4 : decode cX4_reachesBy 4 = .ok (.getfield 39, 3) := by decide +kernel
theorem dX4_reachesBy_7 : decode cX4_reachesBy 7 = .ok (.getfield 74, 3) := by decide +kernel
theorem dX4_reachesBy_10 : decode cX4_reachesBy 10 = .ok (.iload_n 1, 1) := by decide +kernel
theorem dX4_reachesBy_11 : decode cX4_reachesBy 11 = .ok (.iaload, 1) := by decide +kernel
theorem dX4_reachesBy_12 : decode cX4_reachesBy 12 = .ok (.invokevirtual 77, 3) := by decide +kernel
theorem dX4_reachesBy_15 : decode cX4_reachesBy 15 = .ok (.ifCond .eq 7, 3) := by decide +kernel
theorem dX4_reachesBy_18 : decode cX4_reachesBy 18 = .ok (.iconst 1, 1) := by decide +kernel
theorem dX4_reachesBy_19 : decode cX4_reachesBy 19 = .ok (.goto 4, 3) := by decide +kernel
theorem dX4_reachesBy_22 : decode cX4_reachesBy 22 = .ok (.iconst 0, 1) := by decide +kernel
theorem dX4_reachesBy_23 : decode cX4_reachesBy 23 = .ok (.isub, 1) := by decide +kernel
theorem dX4_reachesBy_24 : decode cX4_reachesBy 24 = .ok (.istore 4, 2) := by decide +kernel
theorem dX4_reachesBy_26 : decode cX4_reachesBy 26 = .ok (.iconst 0, 1) := by decide +kernel
theorem dX4_reachesBy_27 : decode cX4_reachesBy 27 = .ok (.istore 5, 2) := by decide +kernel
theorem dX4_reachesBy_29 : decode cX4_reachesBy 29 = .ok (.iload 5, 2) := by decide +kernel
theorem dX4_reachesBy_31 : decode cX4_reachesBy 31 = .ok (.aload_n 0, 1) := by decide +kernel
theorem dX4_reachesBy_32 : decode cX4_reachesBy 32 = .ok (.getfield 39, 3) := by decide +kernel
theorem dX4_reachesBy_35 : decode cX4_reachesBy 35 = .ok (.getfield 47, 3) := by decide +kernel
theorem dX4_reachesBy_38 : decode cX4_reachesBy 38 = .ok (.getfield 51, 3) := by decide +kernel
theorem dX4_reachesBy_41 : decode cX4_reachesBy 41 = .ok (.if_icmp .ge 71, 3) := by decide +kernel
theorem dX4_reachesBy_44 : decode cX4_reachesBy 44 = .ok (.iload 4, 2) := by decide +kernel
theorem dX4_reachesBy_46 : decode cX4_reachesBy 46 = .ok (.aload_n 0, 1) := by decide +kernel
theorem dX4_reachesBy_47 : decode cX4_reachesBy 47 = .ok (.iload_n 1, 1) := by decide +kernel
theorem dX4_reachesBy_48 : decode cX4_reachesBy 48 = .ok (.iload 5, 2) := by decide +kernel
theorem dX4_reachesBy_50 : decode cX4_reachesBy 50 = .ok (.invokevirtual 77, 3) := by decide +kernel
theorem dX4_reachesBy_53 : decode cX4_reachesBy 53 = .ok (.ifCond .eq 7, 3) := by decide +kernel
theorem dX4_reachesBy_56 : decode cX4_reachesBy 56 = .ok (.iconst 1, 1) := by decide +kernel
theorem dX4_reachesBy_57 : decode cX4_reachesBy 57 = .ok (.goto 4, 3) := by decide +kernel
theorem dX4_reachesBy_60 : decode cX4_reachesBy 60 = .ok (.iconst 0, 1) := by decide +kernel
theorem dX4_reachesBy_61 : decode cX4_reachesBy 61 = .ok (.iadd, 1) := by decide +kernel
theorem dX4_reachesBy_62 : decode cX4_reachesBy 62 = .ok (.iload_n 2, 1) := by decide +kernel
theorem dX4_reachesBy_63 : decode cX4_reachesBy 63 = .ok (.if_icmp .ge 7, 3) := by decide +kernel
theorem dX4_reachesBy_66 : decode cX4_reachesBy 66 = .ok (.iconst 1, 1) := by decide +kernel
theorem dX4_reachesBy_67 : decode cX4_reachesBy 67 = .ok (.goto 4, 3) := by decide +kernel
theorem dX4_reachesBy_70 : decode cX4_reachesBy 70 = .ok (.iconst 0, 1) := by decide +kernel
theorem dX4_reachesBy_71 : decode cX4_reachesBy 71 = .ok (.istore 6, 2) := by decide +kernel
theorem dX4_reachesBy_73 : decode cX4_reachesBy 73 = .ok (.iload 6, 2) := by decide +kernel
theorem dX4_reachesBy_75 : decode cX4_reachesBy 75 = .ok (.ifCond .eq 31, 3) := by decide +kernel
theorem dX4_reachesBy_78 : decode cX4_reachesBy 78 = .ok (.iload_n 2, 1) := by decide +kernel
theorem dX4_reachesBy_79 : decode cX4_reachesBy 79 = .ok (.iconst 2, 1) := by decide +kernel
theorem dX4_reachesBy_80 : decode cX4_reachesBy 80 = .ok (.if_icmp .gt 13, 3) := by decide +kernel
theorem dX4_reachesBy_83 : decode cX4_reachesBy 83 = .ok (.aload_n 0, 1) := by decide +kernel
theorem dX4_reachesBy_84 : decode cX4_reachesBy 84 = .ok (.iload_n 1, 1) := by decide +kernel
theorem dX4_reachesBy_85 : decode cX4_reachesBy 85 = .ok (.iload 5, 2) := by decide +kernel
theorem dX4_reachesBy_87 : decode cX4_reachesBy 87 = .ok (.invokevirtual 104, 3) := by decide +kernel
theorem dX4_reachesBy_90 : decode cX4_reachesBy 90 = .ok (.ifCond .eq 16, 3) := by decide +kernel
theorem dX4_reachesBy_93 : decode cX4_reachesBy 93 = .ok (.aload_n 0, 1) := by decide +kernel
theorem dX4_reachesBy_94 : decode cX4_reachesBy 94 = .ok (.iload_n 1, 1) := by decide +kernel
theorem dX4_reachesBy_95 : decode cX4_reachesBy 95 = .ok (.iload 5, 2) := by decide +kernel
theorem dX4_reachesBy_97 : decode cX4_reachesBy 97 = .ok (.iload_n 2, 1) := by decide +kernel
theorem dX4_reachesBy_98 : decode cX4_reachesBy 98 = .ok (.invokevirtual 101, 3) := by decide +kernel
theorem dX4_reachesBy_101 : decode cX4_reachesBy 101 = .ok (.ifCond .eq 5, 3) := by decide +kernel
theorem dX4_reachesBy_104 : decode cX4_reachesBy 104 = .ok (.iconst 1, 1) := by decide +kernel
theorem dX4_reachesBy_105 : decode cX4_reachesBy 105 = .ok (.ireturn, 1) := by decide +kernel
theorem dX4_reachesBy_106 : decode cX4_reachesBy 106 = .ok (.iinc 5 1, 3) := by decide +kernel
theorem dX4_reachesBy_109 : decode cX4_reachesBy 109 = .ok (.goto (-80), 3) := by decide +kernel
theorem dX4_reachesBy_112 : decode cX4_reachesBy 112 = .ok (.iconst 0, 1) := by decide +kernel
theorem dX4_reachesBy_113 : decode cX4_reachesBy 113 = .ok (.ireturn, 1) := by decide +kernel
theorem dX4_helpsLast_0 : decode cX4_helpsLast 0 = .ok (.aload_n 0, 1) := by decide +kernel
theorem dX4_helpsLast_1 : decode cX4_helpsLast 1 = .ok (.iload_n 1, 1) := by decide +kernel
theorem dX4_helpsLast_2 : decode cX4_helpsLast 2 = .ok (.aload_n 0, 1) := by decide +kernel
theorem dX4_helpsLast_3 : decode cX4_helpsLast 3 = .ok (.getfield 39, 3) := by decide +kernel
theorem dX4_helpsLast_6 : decode cX4_helpsLast 6 = .ok (.getfield 74, 3) := by decide +kernel
theorem dX4_helpsLast_9 : decode cX4_helpsLast 9 = .ok (.iload_n 1, 1) := by decide +kernel
theorem dX4_helpsLast_10 : decode cX4_helpsLast 10 = .ok (.iaload, 1) := by decide +kernel
theorem dX4_helpsLast_11 : decode cX4_helpsLast 11 = .ok (.invokevirtual 77, 3) := by decide +kernel
theorem dX4_helpsLast_14 : decode cX4_helpsLast 14 = .ok (.ifCond .eq 5, 3) := by decide +kernel
theorem dX4_helpsLast_17 : decode cX4_helpsLast 17 = .ok (.iconst 1, 1) := by decide +kernel
theorem dX4_helpsLast_18 : decode cX4_helpsLast 18 = .ok (.ireturn, 1) := by decide +kernel
theorem dX4_helpsLast_19 : decode cX4_helpsLast 19 = .ok (.aload_n 0, 1) := by decide +kernel
theorem dX4_helpsLast_20 : decode cX4_helpsLast 20 = .ok (.iload_n 2, 1) := by decide +kernel
theorem dX4_helpsLast_21 : decode cX4_helpsLast 21 = .ok (.invokevirtual 107, 3) := by decide +kernel
theorem dX4_helpsLast_24 : decode cX4_helpsLast 24 = .ok (.ifCond .ne 19, 3) := by decide +kernel
theorem dX4_helpsLast_27 : decode cX4_helpsLast 27 = .ok (.aload_n 0, 1) := by decide +kernel
theorem dX4_helpsLast_28 : decode cX4_helpsLast 28 = .ok (.aload_n 0, 1) := by decide +kernel
theorem dX4_helpsLast_29 : decode cX4_helpsLast 29 = .ok (.getfield 39, 3) := by decide +kernel
theorem dX4_helpsLast_32 : decode cX4_helpsLast 32 = .ok (.getfield 74, 3) := by decide +kernel
theorem dX4_helpsLast_35 : decode cX4_helpsLast 35 = .ok (.iload_n 1, 1) := by decide +kernel
theorem dX4_helpsLast_36 : decode cX4_helpsLast 36 = .ok (.iaload, 1) := by decide +kernel
theorem dX4_helpsLast_37 : decode cX4_helpsLast 37 = .ok (.invokevirtual 107, 3) := by decide +kernel
theorem dX4_helpsLast_40 : decode cX4_helpsLast 40 = .ok (.ifCond .eq 7, 3) := by decide +kernel
theorem dX4_helpsLast_43 : decode cX4_helpsLast 43 = .ok (.iconst 1, 1) := by decide +kernel
theorem dX4_helpsLast_44 : decode cX4_helpsLast 44 = .ok (.goto 4, 3) := by decide +kernel
theorem dX4_helpsLast_47 : decode cX4_helpsLast 47 = .ok (.iconst 0, 1) := by decide +kernel
theorem dX4_helpsLast_48 : decode cX4_helpsLast 48 = .ok (.ireturn, 1) := by decide +kernel
theorem dX4_isAwaited_0 : decode cX4_isAwaited 0 = .ok (.iconst 0, 1) := by decide +kernel
theorem dX4_isAwaited_1 : decode cX4_isAwaited 1 = .ok (.istore_n 2, 1) := by decide +kernel
theorem dX4_isAwaited_2 : decode cX4_isAwaited 2 = .ok (.iload_n 2, 1) := by decide +kernel
theorem dX4_isAwaited_3 : decode cX4_isAwaited 3 = .ok (.aload_n 0, 1) := by decide +kernel
theorem dX4_isAwaited_4 : decode cX4_isAwaited 4 = .ok (.getfield 39, 3) := by decide +kernel
theorem dX4_isAwaited_7 : decode cX4_isAwaited 7 = .ok (.getfield 47, 3) := by decide +kernel
theorem dX4_isAwaited_10 : decode cX4_isAwaited 10 = .ok (.getfield 71, 3) := by decide +kernel
theorem dX4_isAwaited_13 : decode cX4_isAwaited 13 = .ok (.if_icmp .ge 34, 3) := by decide +kernel
theorem dX4_isAwaited_16 : decode cX4_isAwaited 16 = .ok (.aload_n 0, 1) := by decide +kernel
theorem dX4_isAwaited_17 : decode cX4_isAwaited 17 = .ok (.getfield 9, 3) := by decide +kernel
theorem dX4_isAwaited_20 : decode cX4_isAwaited 20 = .ok (.iload_n 2, 1) := by decide +kernel
theorem dX4_isAwaited_21 : decode cX4_isAwaited 21 = .ok (.iaload, 1) := by decide +kernel
theorem dX4_isAwaited_22 : decode cX4_isAwaited 22 = .ok (.iload_n 1, 1) := by decide +kernel
theorem dX4_isAwaited_23 : decode cX4_isAwaited 23 = .ok (.if_icmp .ne 18, 3) := by decide +kernel
theorem dX4_isAwaited_26 : decode cX4_isAwaited 26 = .ok (.aload_n 0, 1) := by decide +kernel
theorem dX4_isAwaited_27 : decode cX4_isAwaited 27 = .ok (.getfield 39, 3) := by decide +kernel
theorem dX4_isAwaited_30 : decode cX4_isAwaited 30 = .ok (.getfield 74, 3) := by decide +kernel
theorem dX4_isAwaited_33 : decode cX4_isAwaited 33 = .ok (.iload_n 2, 1) := by decide +kernel
theorem dX4_isAwaited_34 : decode cX4_isAwaited 34 = .ok (.iaload, 1) := by decide +kernel
theorem dX4_isAwaited_35 : decode cX4_isAwaited 35 = .ok (.iload_n 1, 1) := by decide +kernel
theorem dX4_isAwaited_36 : decode cX4_isAwaited 36 = .ok (.if_icmp .eq 5, 3) := by decide +kernel
theorem dX4_isAwaited_39 : decode cX4_isAwaited 39 = .ok (.iconst 1, 1) := by decide +kernel
theorem dX4_isAwaited_40 : decode cX4_isAwaited 40 = .ok (.ireturn, 1) := by decide +kernel
theorem dX4_isAwaited_41 : decode cX4_isAwaited 41 = .ok (.iinc 2 1, 3) := by decide +kernel
theorem dX4_isAwaited_44 : decode cX4_isAwaited 44 = .ok (.goto (-42), 3) := by decide +kernel
theorem dX4_isAwaited_47 : decode cX4_isAwaited 47 = .ok (.iconst 0, 1) := by decide +kernel
theorem dX4_isAwaited_48 : decode cX4_isAwaited 48 = .ok (.ireturn, 1) := by decide +kernel
theorem dX4_reachesInto_0 : decode cX4_reachesInto 0 = .ok (.aload_n 0, 1) := by decide +kernel
theorem dX4_reachesInto_1 : decode cX4_reachesInto 1 = .ok (.getfield 39, 3) := by decide +kernel
theorem dX4_reachesInto_4 : decode cX4_reachesInto 4 = .ok (.getfield 74, 3) := by decide +kernel
theorem dX4_reachesInto_7 : decode cX4_reachesInto 7 = .ok (.iload_n 1, 1) := by decide +kernel
theorem dX4_reachesInto_8 : decode cX4_reachesInto 8 = .ok (.iaload, 1) := by decide +kernel
theorem dX4_reachesInto_9 : decode cX4_reachesInto 9 = .ok (.istore 4, 2) := by decide +kernel
theorem dX4_reachesInto_11 : decode cX4_reachesInto 11 = .ok (.iload_n 2, 1) := by decide +kernel
theorem dX4_reachesInto_12 : decode cX4_reachesInto 12 = .ok (.iload 4, 2) := by decide +kernel
theorem dX4_reachesInto_14 : decode cX4_reachesInto 14 = .ok (.if_icmp .eq 27, 3) := by decide +kernel
theorem dX4_reachesInto_17 : decode cX4_reachesInto 17 = .ok (.aload_n 0, 1) := by decide +kernel
theorem dX4_reachesInto_18 : decode cX4_reachesInto 18 = .ok (.getfield 39, 3) := by decide +kernel
theorem dX4_reachesInto_21 : decode cX4_reachesInto 21 = .ok (.iload_n 1, 1) := by decide +kernel
theorem dX4_reachesInto_22 : decode cX4_reachesInto 22 = .ok (.iload_n 2, 1) := by decide +kernel
theorem dX4_reachesInto_23 : decode cX4_reachesInto 23 = .ok (.aload_n 0, 1) := by decide +kernel
theorem dX4_reachesInto_24 : decode cX4_reachesInto 24 = .ok (.getfield 15, 3) := by decide +kernel
theorem dX4_reachesInto_27 : decode cX4_reachesInto 27 = .ok (.iload_n 2, 1) := by decide +kernel
theorem dX4_reachesInto_28 : decode cX4_reachesInto 28 = .ok (.iaload, 1) := by decide +kernel
theorem dX4_reachesInto_29 : decode cX4_reachesInto 29 = .ok (.aload_n 0, 1) := by decide +kernel
theorem dX4_reachesInto_30 : decode cX4_reachesInto 30 = .ok (.getfield 18, 3) := by decide +kernel
theorem dX4_reachesInto_33 : decode cX4_reachesInto 33 = .ok (.iload_n 2, 1) := by decide +kernel
theorem dX4_reachesInto_34 : decode cX4_reachesInto 34 = .ok (.iaload, 1) := by decide +kernel
theorem dX4_reachesInto_35 : decode cX4_reachesInto 35 = .ok (.invokevirtual 110, 3) := by decide +kernel
theorem dX4_reachesInto_38 : decode cX4_reachesInto 38 = .ok (.ifCond .ne 5, 3) := by decide +kernel
theorem dX4_reachesInto_41 : decode cX4_reachesInto 41 = .ok (.iconst 0, 1) := by decide +kernel
theorem dX4_reachesInto_42 : decode cX4_reachesInto 42 = .ok (.ireturn, 1) := by decide +kernel
theorem dX4_reachesInto_43 : decode cX4_reachesInto 43 = .ok (.aload_n 0, 1) := by decide +kernel
theorem dX4_reachesInto_44 : decode cX4_reachesInto 44 = .ok (.iload_n 1, 1) := by decide +kernel
theorem dX4_reachesInto_45 : decode cX4_reachesInto 45 = .ok (.iload 4, 2) := by decide +kernel
theorem dX4_reachesInto_47 : decode cX4_reachesInto 47 = .ok (.iload_n 2, 1) := by decide +kernel
theorem dX4_reachesInto_48 : decode cX4_reachesInto 48 = .ok (.invokevirtual 114, 3) := by decide +kernel
theorem dX4_reachesInto_51 : decode cX4_reachesInto 51 = .ok (.aload_n 0, 1) := by decide +kernel
theorem dX4_reachesInto_52 : decode cX4_reachesInto 52 = .ok (.iload_n 3, 1) := by decide +kernel
theorem dX4_reachesInto_53 : decode cX4_reachesInto 53 = .ok (.iconst 1, 1) := by decide +kernel
theorem dX4_reachesInto_54 : decode cX4_reachesInto 54 = .ok (.isub, 1) := by decide +kernel
theorem dX4_reachesInto_55 : decode cX4_reachesInto 55 = .ok (.invokevirtual 68, 3) := by decide +kernel
theorem dX4_reachesInto_58 : decode cX4_reachesInto 58 = .ok (.istore 5, 2) := by decide +kernel
theorem dX4_reachesInto_60 : decode cX4_reachesInto 60 = .ok (.aload_n 0, 1) := by decide +kernel
theorem dX4_reachesInto_61 : decode cX4_reachesInto 61 = .ok (.iload_n 1, 1) := by decide +kernel
theorem dX4_reachesInto_62 : decode cX4_reachesInto 62 = .ok (.iload_n 2, 1) := by decide +kernel
theorem dX4_reachesInto_63 : decode cX4_reachesInto 63 = .ok (.iload 4, 2) := by decide +kernel
theorem dX4_reachesInto_65 : decode cX4_reachesInto 65 = .ok (.invokevirtual 114, 3) := by decide +kernel
theorem dX4_reachesInto_68 : decode cX4_reachesInto 68 = .ok (.iload 5, 2) := by decide +kernel
theorem dX4_reachesInto_70 : decode cX4_reachesInto 70 = .ok (.ireturn, 1) := by decide +kernel
theorem dX4_shift_0 : decode cX4_shift 0 = .ok (.aload_n 0, 1) := by decide +kernel
theorem dX4_shift_1 : decode cX4_shift 1 = .ok (.getfield 39, 3) := by decide +kernel
theorem dX4_shift_4 : decode cX4_shift 4 = .ok (.getfield 74, 3) := by decide +kernel
theorem dX4_shift_7 : decode cX4_shift 7 = .ok (.iload_n 1, 1) := by decide +kernel
theorem dX4_shift_8 : decode cX4_shift 8 = .ok (.iload_n 3, 1) := by decide +kernel
theorem dX4_shift_9 : decode cX4_shift 9 = .ok (.iastore, 1) := by decide +kernel
theorem dX4_shift_10 : decode cX4_shift 10 = .ok (.aload_n 0, 1) := by decide +kernel
theorem dX4_shift_11 : decode cX4_shift 11 = .ok (.getfield 15, 3) := by decide +kernel
theorem dX4_shift_14 : decode cX4_shift 14 = .ok (.iload_n 2, 1) := by decide +kernel
theorem dX4_shift_15 : decode cX4_shift 15 = .ok (.dup2, 1) := by decide +kernel
theorem dX4_shift_16 : decode cX4_shift 16 = .ok (.iaload, 1) := by decide +kernel
theorem dX4_shift_17 : decode cX4_shift 17 = .ok (.aload_n 0, 1) := by decide +kernel
theorem dX4_shift_18 : decode cX4_shift 18 = .ok (.getfield 39, 3) := by decide +kernel
theorem dX4_shift_21 : decode cX4_shift 21 = .ok (.getfield 81, 3) := by decide +kernel
theorem dX4_shift_24 : decode cX4_shift 24 = .ok (.iload_n 1, 1) := by decide +kernel
theorem dX4_shift_25 : decode cX4_shift 25 = .ok (.iaload, 1) := by decide +kernel
theorem dX4_shift_26 : decode cX4_shift 26 = .ok (.iadd, 1) := by decide +kernel
theorem dX4_shift_27 : decode cX4_shift 27 = .ok (.iastore, 1) := by decide +kernel
theorem dX4_shift_28 : decode cX4_shift 28 = .ok (.aload_n 0, 1) := by decide +kernel
theorem dX4_shift_29 : decode cX4_shift 29 = .ok (.getfield 18, 3) := by decide +kernel
theorem dX4_shift_32 : decode cX4_shift 32 = .ok (.iload_n 2, 1) := by decide +kernel
theorem dX4_shift_33 : decode cX4_shift 33 = .ok (.dup2, 1) := by decide +kernel
theorem dX4_shift_34 : decode cX4_shift 34 = .ok (.iaload, 1) := by decide +kernel
theorem dX4_shift_35 : decode cX4_shift 35 = .ok (.iconst 1, 1) := by decide +kernel
theorem dX4_shift_36 : decode cX4_shift 36 = .ok (.isub, 1) := by decide +kernel
theorem dX4_shift_37 : decode cX4_shift 37 = .ok (.iastore, 1) := by decide +kernel
theorem dX4_shift_38 : decode cX4_shift 38 = .ok (.aload_n 0, 1) := by decide +kernel
theorem dX4_shift_39 : decode cX4_shift 39 = .ok (.getfield 15, 3) := by decide +kernel
theorem dX4_shift_42 : decode cX4_shift 42 = .ok (.iload_n 3, 1) := by decide +kernel
theorem dX4_shift_43 : decode cX4_shift 43 = .ok (.dup2, 1) := by decide +kernel
theorem dX4_shift_44 : decode cX4_shift 44 = .ok (.iaload, 1) := by decide +kernel
theorem dX4_shift_45 : decode cX4_shift 45 = .ok (.aload_n 0, 1) := by decide +kernel
theorem dX4_shift_46 : decode cX4_shift 46 = .ok (.getfield 39, 3) := by decide +kernel
theorem dX4_shift_49 : decode cX4_shift 49 = .ok (.getfield 81, 3) := by decide +kernel
theorem dX4_shift_52 : decode cX4_shift 52 = .ok (.iload_n 1, 1) := by decide +kernel
theorem dX4_shift_53 : decode cX4_shift 53 = .ok (.iaload, 1) := by decide +kernel
theorem dX4_shift_54 : decode cX4_shift 54 = .ok (.isub, 1) := by decide +kernel
theorem dX4_shift_55 : decode cX4_shift 55 = .ok (.iastore, 1) := by decide +kernel
theorem dX4_shift_56 : decode cX4_shift 56 = .ok (.aload_n 0, 1) := by decide +kernel
theorem dX4_shift_57 : decode cX4_shift 57 = .ok (.getfield 18, 3) := by decide +kernel
theorem dX4_shift_60 : decode cX4_shift 60 = .ok (.iload_n 3, 1) := by decide +kernel
theorem dX4_shift_61 : decode cX4_shift 61 = .ok (.dup2, 1) := by decide +kernel
theorem dX4_shift_62 : decode cX4_shift 62 = .ok (.iaload, 1) := by decide +kernel
theorem dX4_shift_63 : decode cX4_shift 63 = .ok (.iconst 1, 1) := by decide +kernel
theorem dX4_shift_64 : decode cX4_shift 64 = .ok (.iadd, 1) := by decide +kernel
theorem dX4_shift_65 : decode cX4_shift 65 = .ok (.iastore, 1) := by decide +kernel
theorem dX4_shift_66 : decode cX4_shift 66 = .ok (.return_, 1) := by decide +kernel
theorem dX4_forgetSeen_0 : decode cX4_forgetSeen 0 = .ok (.iload_n 1, 1) := by decide +kernel
theorem dX4_forgetSeen_1 : decode cX4_forgetSeen 1 = .ok (.iconst 1, 1) := by decide +kernel
theorem dX4_forgetSeen_2 : decode cX4_forgetSeen 2 = .ok (.if_icmp .le 11, 3) := by decide +kernel
theorem dX4_forgetSeen_5 : decode cX4_forgetSeen 5 = .ok (.aload_n 0, 1) := by decide +kernel
theorem dX4_forgetSeen_6 : decode cX4_forgetSeen 6 = .ok (.getfield 21, 3) := by decide +kernel
theorem dX4_forgetSeen_9 : decode cX4_forgetSeen 9 = .ok (.iconst 0, 1) := by decide +kernel
theorem dX4_forgetSeen_10 : decode cX4_forgetSeen 10 = .ok (.invokestatic 24, 3) := by decide +kernel
theorem dX4_forgetSeen_13 : decode cX4_forgetSeen 13 = .ok (.return_, 1) := by decide +kernel
theorem dX4_wasSeen_0 : decode cX4_wasSeen 0 = .ok (.iconst 1, 1) := by decide +kernel
theorem dX4_wasSeen_1 : decode cX4_wasSeen 1 = .ok (.istore_n 1, 1) := by decide +kernel
theorem dX4_wasSeen_2 : decode cX4_wasSeen 2 = .ok (.iconst 0, 1) := by decide +kernel
theorem dX4_wasSeen_3 : decode cX4_wasSeen 3 = .ok (.istore_n 2, 1) := by decide +kernel
theorem dX4_wasSeen_4 : decode cX4_wasSeen 4 = .ok (.iload_n 2, 1) := by decide +kernel
theorem dX4_wasSeen_5 : decode cX4_wasSeen 5 = .ok (.aload_n 0, 1) := by decide +kernel
theorem dX4_wasSeen_6 : decode cX4_wasSeen 6 = .ok (.getfield 39, 3) := by decide +kernel
theorem dX4_wasSeen_9 : decode cX4_wasSeen 9 = .ok (.getfield 47, 3) := by decide +kernel
theorem dX4_wasSeen_12 : decode cX4_wasSeen 12 = .ok (.getfield 71, 3) := by decide +kernel
theorem dX4_wasSeen_15 : decode cX4_wasSeen 15 = .ok (.if_icmp .ge 28, 3) := by decide +kernel
theorem dX4_wasSeen_18 : decode cX4_wasSeen 18 = .ok (.iload_n 1, 1) := by decide +kernel
theorem dX4_wasSeen_19 : decode cX4_wasSeen 19 = .ok (.bipush 8, 2) := by decide +kernel
theorem dX4_wasSeen_21 : decode cX4_wasSeen 21 = .ok (.imul, 1) := by decide +kernel
theorem dX4_wasSeen_22 : decode cX4_wasSeen 22 = .ok (.iconst 0, 1) := by decide +kernel
theorem dX4_wasSeen_23 : decode cX4_wasSeen 23 = .ok (.aload_n 0, 1) := by decide +kernel
theorem dX4_wasSeen_24 : decode cX4_wasSeen 24 = .ok (.getfield 39, 3) := by decide +kernel
theorem dX4_wasSeen_27 : decode cX4_wasSeen 27 = .ok (.getfield 74, 3) := by decide +kernel
theorem dX4_wasSeen_30 : decode cX4_wasSeen 30 = .ok (.iload_n 2, 1) := by decide +kernel
theorem dX4_wasSeen_31 : decode cX4_wasSeen 31 = .ok (.iaload, 1) := by decide +kernel
theorem dX4_wasSeen_32 : decode cX4_wasSeen 32 = .ok (.invokestatic 118, 3) := by decide +kernel
theorem dX4_wasSeen_35 : decode cX4_wasSeen 35 = .ok (.iadd, 1) := by decide +kernel
theorem dX4_wasSeen_36 : decode cX4_wasSeen 36 = .ok (.istore_n 1, 1) := by decide +kernel
theorem dX4_wasSeen_37 : decode cX4_wasSeen 37 = .ok (.iinc 2 1, 3) := by decide +kernel
theorem dX4_wasSeen_40 : decode cX4_wasSeen 40 = .ok (.goto (-36), 3) := by decide +kernel
theorem dX4_wasSeen_43 : decode cX4_wasSeen 43 = .ok (.iload_n 1, 1) := by decide +kernel
theorem dX4_wasSeen_44 : decode cX4_wasSeen 44 = .ok (.ldc 124, 2) := by decide +kernel
theorem dX4_wasSeen_46 : decode cX4_wasSeen 46 = .ok (.imul, 1) := by decide +kernel
theorem dX4_wasSeen_47 : decode cX4_wasSeen 47 = .ok (.bipush 21, 2) := by decide +kernel
theorem dX4_wasSeen_49 : decode cX4_wasSeen 49 = .ok (.iushr, 1) := by decide +kernel
theorem dX4_wasSeen_50 : decode cX4_wasSeen 50 = .ok (.istore_n 2, 1) := by decide +kernel
theorem dX4_wasSeen_51 : decode cX4_wasSeen 51 = .ok (.iconst 0, 1) := by decide +kernel
theorem dX4_wasSeen_52 : decode cX4_wasSeen 52 = .ok (.istore_n 3, 1) := by decide +kernel
theorem dX4_wasSeen_53 : decode cX4_wasSeen 53 = .ok (.iload_n 3, 1) := by decide +kernel
theorem dX4_wasSeen_54 : decode cX4_wasSeen 54 = .ok (.sipush 2048, 3) := by decide +kernel
theorem dX4_wasSeen_57 : decode cX4_wasSeen 57 = .ok (.if_icmp .ge 47, 3) := by decide +kernel
theorem dX4_wasSeen_60 : decode cX4_wasSeen 60 = .ok (.aload_n 0, 1) := by decide +kernel
theorem dX4_wasSeen_61 : decode cX4_wasSeen 61 = .ok (.getfield 21, 3) := by decide +kernel
theorem dX4_wasSeen_64 : decode cX4_wasSeen 64 = .ok (.iload_n 2, 1) := by decide +kernel
theorem dX4_wasSeen_65 : decode cX4_wasSeen 65 = .ok (.iaload, 1) := by decide +kernel
theorem dX4_wasSeen_66 : decode cX4_wasSeen 66 = .ok (.iload_n 1, 1) := by decide +kernel
theorem dX4_wasSeen_67 : decode cX4_wasSeen 67 = .ok (.if_icmp .ne 5, 3) := by decide +kernel
theorem dX4_wasSeen_70 : decode cX4_wasSeen 70 = .ok (.iconst 1, 1) := by decide +kernel
theorem dX4_wasSeen_71 : decode cX4_wasSeen 71 = .ok (.ireturn, 1) := by decide +kernel
theorem dX4_wasSeen_72 : decode cX4_wasSeen 72 = .ok (.aload_n 0, 1) := by decide +kernel
theorem dX4_wasSeen_73 : decode cX4_wasSeen 73 = .ok (.getfield 21, 3) := by decide +kernel
theorem dX4_wasSeen_76 : decode cX4_wasSeen 76 = .ok (.iload_n 2, 1) := by decide +kernel
theorem dX4_wasSeen_77 : decode cX4_wasSeen 77 = .ok (.iaload, 1) := by decide +kernel
theorem dX4_wasSeen_78 : decode cX4_wasSeen 78 = .ok (.ifCond .ne 12, 3) := by decide +kernel
theorem dX4_wasSeen_81 : decode cX4_wasSeen 81 = .ok (.aload_n 0, 1) := by decide +kernel
theorem dX4_wasSeen_82 : decode cX4_wasSeen 82 = .ok (.getfield 21, 3) := by decide +kernel
theorem dX4_wasSeen_85 : decode cX4_wasSeen 85 = .ok (.iload_n 2, 1) := by decide +kernel
theorem dX4_wasSeen_86 : decode cX4_wasSeen 86 = .ok (.iload_n 1, 1) := by decide +kernel
theorem dX4_wasSeen_87 : decode cX4_wasSeen 87 = .ok (.iastore, 1) := by decide +kernel
theorem dX4_wasSeen_88 : decode cX4_wasSeen 88 = .ok (.iconst 0, 1) := by decide +kernel
theorem dX4_wasSeen_89 : decode cX4_wasSeen 89 = .ok (.ireturn, 1) := by decide +kernel
theorem dX4_wasSeen_90 : decode cX4_wasSeen 90 = .ok (.iload_n 2, 1) := by decide +kernel
theorem dX4_wasSeen_91 : decode cX4_wasSeen 91 = .ok (.iconst 1, 1) := by decide +kernel
theorem dX4_wasSeen_92 : decode cX4_wasSeen 92 = .ok (.iadd, 1) := by decide +kernel
theorem dX4_wasSeen_93 : decode cX4_wasSeen 93 = .ok (.sipush 2048, 3) := by decide +kernel
theorem dX4_wasSeen_96 : decode cX4_wasSeen 96 = .ok (.irem, 1) := by decide +kernel
theorem dX4_wasSeen_97 : decode cX4_wasSeen 97 = .ok (.istore_n 2, 1) := by decide +kernel
theorem dX4_wasSeen_98 : decode cX4_wasSeen 98 = .ok (.iinc 3 1, 3) := by decide +kernel
theorem dX4_wasSeen_101 : decode cX4_wasSeen 101 = .ok (.goto (-48), 3) := by decide +kernel
theorem dX4_wasSeen_104 : decode cX4_wasSeen 104 = .ok (.iconst 0, 1) := by decide +kernel
theorem dX4_wasSeen_105 : decode cX4_wasSeen 105 = .ok (.ireturn, 1) := by decide +kernel
theorem dX5_init_0 : decode cX5_init 0 = .ok (.aload_n 0, 1) := by decide +kernel
theorem dX5_init_1 : decode cX5_init 1 = .ok (.invokespecial 5, 3) := by decide +kernel
theorem dX5_init_4 : decode cX5_init 4 = .ok (.aload_n 0, 1) := by decide +kernel
theorem dX5_init_5 : decode cX5_init 5 = .ok (.sipush 240, 3) := by decide +kernel
theorem dX5_init_8 : decode cX5_init 8 = .ok (.newarray .int, 2) := by decide +kernel
theorem dX5_init_10 : decode cX5_init 10 = .ok (.putfield 11, 3) := by decide +kernel
theorem dX5_init_13 : decode cX5_init 13 = .ok (.return_, 1) := by decide +kernel
theorem dX5_count_0 : decode cX5_count 0 = .ok (.bipush 40, 2) := by decide +kernel
theorem dX5_count_2 : decode cX5_count 2 = .ok (.aload_n 0, 1) := by decide +kernel
theorem dX5_count_3 : decode cX5_count 3 = .ok (.getfield 15, 3) := by decide +kernel
theorem dX5_count_6 : decode cX5_count 6 = .ok (.invokestatic 19, 3) := by decide +kernel
theorem dX5_count_9 : decode cX5_count 9 = .ok (.ireturn, 1) := by decide +kernel
theorem dX5_add_0 : decode cX5_add 0 = .ok (.iconst 4, 1) := by decide +kernel
theorem dX5_add_1 : decode cX5_add 1 = .ok (.aload_n 0, 1) := by decide +kernel
theorem dX5_add_2 : decode cX5_add 2 = .ok (.getfield 15, 3) := by decide +kernel
theorem dX5_add_5 : decode cX5_add 5 = .ok (.bipush 60, 2) := by decide +kernel
theorem dX5_add_7 : decode cX5_add 7 = .ok (.irem, 1) := by decide +kernel
theorem dX5_add_8 : decode cX5_add 8 = .ok (.imul, 1) := by decide +kernel
theorem dX5_add_9 : decode cX5_add 9 = .ok (.istore 5, 2) := by decide +kernel
theorem dX5_add_11 : decode cX5_add 11 = .ok (.aload_n 0, 1) := by decide +kernel
theorem dX5_add_12 : decode cX5_add 12 = .ok (.getfield 11, 3) := by decide +kernel
theorem dX5_add_15 : decode cX5_add 15 = .ok (.iload 5, 2) := by decide +kernel
theorem dX5_add_17 : decode cX5_add 17 = .ok (.iload_n 1, 1) := by decide +kernel
theorem dX5_add_18 : decode cX5_add 18 = .ok (.iastore, 1) := by decide +kernel
theorem dX5_add_19 : decode cX5_add 19 = .ok (.aload_n 0, 1) := by decide +kernel
theorem dX5_add_20 : decode cX5_add 20 = .ok (.getfield 11, 3) := by decide +kernel
theorem dX5_add_23 : decode cX5_add 23 = .ok (.iload 5, 2) := by decide +kernel
theorem dX5_add_25 : decode cX5_add 25 = .ok (.iconst 1, 1) := by decide +kernel
theorem dX5_add_26 : decode cX5_add 26 = .ok (.iadd, 1) := by decide +kernel
theorem dX5_add_27 : decode cX5_add 27 = .ok (.iload_n 2, 1) := by decide +kernel
theorem dX5_add_28 : decode cX5_add 28 = .ok (.iastore, 1) := by decide +kernel
theorem dX5_add_29 : decode cX5_add 29 = .ok (.aload_n 0, 1) := by decide +kernel
theorem dX5_add_30 : decode cX5_add 30 = .ok (.getfield 11, 3) := by decide +kernel
theorem dX5_add_33 : decode cX5_add 33 = .ok (.iload 5, 2) := by decide +kernel
theorem dX5_add_35 : decode cX5_add 35 = .ok (.iconst 2, 1) := by decide +kernel
theorem dX5_add_36 : decode cX5_add 36 = .ok (.iadd, 1) := by decide +kernel
theorem dX5_add_37 : decode cX5_add 37 = .ok (.iload_n 3, 1) := by decide +kernel
theorem dX5_add_38 : decode cX5_add 38 = .ok (.iastore, 1) := by decide +kernel
theorem dX5_add_39 : decode cX5_add 39 = .ok (.aload_n 0, 1) := by decide +kernel
theorem dX5_add_40 : decode cX5_add 40 = .ok (.getfield 11, 3) := by decide +kernel
theorem dX5_add_43 : decode cX5_add 43 = .ok (.iload 5, 2) := by decide +kernel
theorem dX5_add_45 : decode cX5_add 45 = .ok (.iconst 3, 1) := by decide +kernel
theorem dX5_add_46 : decode cX5_add 46 = .ok (.iadd, 1) := by decide +kernel
theorem dX5_add_47 : decode cX5_add 47 = .ok (.iload 4, 2) := by decide +kernel
theorem dX5_add_49 : decode cX5_add 49 = .ok (.iastore, 1) := by decide +kernel
theorem dX5_add_50 : decode cX5_add 50 = .ok (.aload_n 0, 1) := by decide +kernel
theorem dX5_add_51 : decode cX5_add 51 = .ok (.dup, 1) := by decide +kernel
theorem dX5_add_52 : decode cX5_add 52 = .ok (.getfield 15, 3) := by decide +kernel
theorem dX5_add_55 : decode cX5_add 55 = .ok (.iconst 1, 1) := by decide +kernel
theorem dX5_add_56 : decode cX5_add 56 = .ok (.iadd, 1) := by decide +kernel
theorem dX5_add_57 : decode cX5_add 57 = .ok (.putfield 15, 3) := by decide +kernel
theorem dX5_add_60 : decode cX5_add 60 = .ok (.return_, 1) := by decide +kernel
theorem dX5_tell_0 : decode cX5_tell 0 = .ok (.aload_n 0, 1) := by decide +kernel
theorem dX5_tell_1 : decode cX5_tell 1 = .ok (.getfield 11, 3) := by decide +kernel
theorem dX5_tell_4 : decode cX5_tell 4 = .ok (.iconst 4, 1) := by decide +kernel
theorem dX5_tell_5 : decode cX5_tell 5 = .ok (.aload_n 0, 1) := by decide +kernel
theorem dX5_tell_6 : decode cX5_tell 6 = .ok (.getfield 15, 3) := by decide +kernel
theorem dX5_tell_9 : decode cX5_tell 9 = .ok (.aload_n 0, 1) := by decide +kernel
theorem dX5_tell_10 : decode cX5_tell 10 = .ok (.invokevirtual 25, 3) := by decide +kernel
theorem dX5_tell_13 : decode cX5_tell 13 = .ok (.isub, 1) := by decide +kernel
theorem dX5_tell_14 : decode cX5_tell 14 = .ok (.iload_n 1, 1) := by decide +kernel
theorem dX5_tell_15 : decode cX5_tell 15 = .ok (.iadd, 1) := by decide +kernel
theorem dX5_tell_16 : decode cX5_tell 16 = .ok (.bipush 60, 2) := by decide +kernel
theorem dX5_tell_18 : decode cX5_tell 18 = .ok (.irem, 1) := by decide +kernel
theorem dX5_tell_19 : decode cX5_tell 19 = .ok (.imul, 1) := by decide +kernel
theorem dX5_tell_20 : decode cX5_tell 20 = .ok (.iload_n 2, 1) := by decide +kernel
theorem dX5_tell_21 : decode cX5_tell 21 = .ok (.iadd, 1) := by decide +kernel
theorem dX5_tell_22 : decode cX5_tell 22 = .ok (.iaload, 1) := by decide +kernel
theorem dX5_tell_23 : decode cX5_tell 23 = .ok (.ireturn, 1) := by decide +kernel
theorem dX6_init_0 : decode cX6_init 0 = .ok (.aload_n 0, 1) := by decide +kernel
theorem dX6_init_1 : decode cX6_init 1 = .ok (.invokespecial 3, 3) := by decide +kernel
theorem dX6_init_4 : decode cX6_init 4 = .ok (.aload_n 0, 1) := by decide +kernel
theorem dX6_init_5 : decode cX6_init 5 = .ok (.bipush 107, 2) := by decide +kernel
theorem dX6_init_7 : decode cX6_init 7 = .ok (.newarray .int, 2) := by decide +kernel
theorem dX6_init_9 : decode cX6_init 9 = .ok (.putfield 11, 3) := by decide +kernel
theorem dX6_init_12 : decode cX6_init 12 = .ok (.return_, 1) := by decide +kernel
theorem dX6_draw_0 : decode cX6_draw 0 = .ok (.aload_n 0, 1) := by decide +kernel
theorem dX6_draw_1 : decode cX6_draw 1 = .ok (.iconst 0, 1) := by decide +kernel
theorem dX6_draw_2 : decode cX6_draw 2 = .ok (.putfield 15, 3) := by decide +kernel
theorem dX6_draw_5 : decode cX6_draw 5 = .ok (.aload_n 0, 1) := by decide +kernel
theorem dX6_draw_6 : decode cX6_draw 6 = .ok (.aload_n 1, 1) := by decide +kernel
theorem dX6_draw_7 : decode cX6_draw 7 = .ok (.getfield 19, 3) := by decide +kernel
theorem dX6_draw_10 : decode cX6_draw 10 = .ok (.invokevirtual 24, 3) := by decide +kernel
theorem dX6_draw_13 : decode cX6_draw 13 = .ok (.iconst 0, 1) := by decide +kernel
theorem dX6_draw_14 : decode cX6_draw 14 = .ok (.istore_n 2, 1) := by decide +kernel
theorem dX6_draw_15 : decode cX6_draw 15 = .ok (.iload_n 2, 1) := by decide +kernel
theorem dX6_draw_16 : decode cX6_draw 16 = .ok (.aload_n 1, 1) := by decide +kernel
theorem dX6_draw_17 : decode cX6_draw 17 = .ok (.getfield 28, 3) := by decide +kernel
theorem dX6_draw_20 : decode cX6_draw 20 = .ok (.getfield 32, 3) := by decide +kernel
theorem dX6_draw_23 : decode cX6_draw 23 = .ok (.if_icmp .ge 67, 3) := by decide +kernel
theorem dX6_draw_26 : decode cX6_draw 26 = .ok (.aload_n 0, 1) := by decide +kernel
theorem dX6_draw_27 : decode cX6_draw 27 = .ok (.aload_n 1, 1) := by decide +kernel
theorem dX6_draw_28 : decode cX6_draw 28 = .ok (.getfield 37, 3) := by decide +kernel
theorem dX6_draw_31 : decode cX6_draw 31 = .ok (.iload_n 2, 1) := by decide +kernel
theorem dX6_draw_32 : decode cX6_draw 32 = .ok (.iaload, 1) := by decide +kernel
theorem dX6_draw_33 : decode cX6_draw 33 = .ok (.invokevirtual 24, 3) := by decide +kernel
theorem dX6_draw_36 : decode cX6_draw 36 = .ok (.aload_n 0, 1) := by decide +kernel
theorem dX6_draw_37 : decode cX6_draw 37 = .ok (.aload_n 1, 1) := by decide +kernel
theorem dX6_draw_38 : decode cX6_draw 38 = .ok (.iload_n 2, 1) := by decide +kernel
theorem dX6_draw_39 : decode cX6_draw 39 = .ok (.invokevirtual 40, 3) := by decide +kernel
theorem dX6_draw_42 : decode cX6_draw 42 = .ok (.ifCond .eq 12, 3) := by decide +kernel
theorem dX6_draw_45 : decode cX6_draw 45 = .ok (.aload_n 1, 1) := by decide +kernel
theorem dX6_draw_46 : decode cX6_draw 46 = .ok (.getfield 44, 3) := by decide +kernel
theorem dX6_draw_49 : decode cX6_draw 49 = .ok (.iload_n 2, 1) := by decide +kernel
theorem dX6_draw_50 : decode cX6_draw 50 = .ok (.iaload, 1) := by decide +kernel
theorem dX6_draw_51 : decode cX6_draw 51 = .ok (.goto 6, 3) := by decide +kernel
theorem dX6_draw_54 : decode cX6_draw 54 = .ok (.sipush 255, 3) := by decide +kernel
theorem dX6_draw_57 : decode cX6_draw 57 = .ok (.invokevirtual 47, 3) := by decide +kernel
theorem dX6_draw_60 : decode cX6_draw 60 = .ok (.aload_n 0, 1) := by decide +kernel
theorem dX6_draw_61 : decode cX6_draw 61 = .ok (.aload_n 1, 1) := by decide +kernel
theorem dX6_draw_62 : decode cX6_draw 62 = .ok (.iload_n 2, 1) := by decide +kernel
theorem dX6_draw_63 : decode cX6_draw 63 = .ok (.invokevirtual 40, 3) := by decide +kernel
theorem dX6_draw_66 : decode cX6_draw 66 = .ok (.ifCond .eq 12, 3) := by decide +kernel
theorem dX6_draw_69 : decode cX6_draw 69 = .ok (.aload_n 1, 1) := by decide +kernel
theorem dX6_draw_70 : decode cX6_draw 70 = .ok (.getfield 50, 3) := by decide +kernel
theorem dX6_draw_73 : decode cX6_draw 73 = .ok (.iload_n 2, 1) := by decide +kernel
theorem dX6_draw_74 : decode cX6_draw 74 = .ok (.iaload, 1) := by decide +kernel
theorem dX6_draw_75 : decode cX6_draw 75 = .ok (.goto 6, 3) := by decide +kernel
theorem dX6_draw_78 : decode cX6_draw 78 = .ok (.sipush 255, 3) := by decide +kernel
theorem dX6_draw_81 : decode cX6_draw 81 = .ok (.invokevirtual 47, 3) := by decide +kernel
theorem dX6_draw_84 : decode cX6_draw 84 = .ok (.iinc 2 1, 3) := by decide +kernel
theorem dX6_draw_87 : decode cX6_draw 87 = .ok (.goto (-72), 3) := by decide +kernel
theorem dX6_draw_90 : decode cX6_draw 90 = .ok (.iconst 0, 1) := by decide +kernel
theorem dX6_draw_91 : decode cX6_draw 91 = .ok (.istore_n 2, 1) := by decide +kernel
theorem dX6_draw_92 : decode cX6_draw 92 = .ok (.iload_n 2, 1) := by decide +kernel
theorem dX6_draw_93 : decode cX6_draw 93 = .ok (.aload_n 1, 1) := by decide +kernel
theorem dX6_draw_94 : decode cX6_draw 94 = .ok (.getfield 28, 3) := by decide +kernel
theorem dX6_draw_97 : decode cX6_draw 97 = .ok (.getfield 53, 3) := by decide +kernel
theorem dX6_draw_100 : decode cX6_draw 100 = .ok (.if_icmp .ge 43, 3) := by decide +kernel
theorem dX6_draw_103 : decode cX6_draw 103 = .ok (.iconst 0, 1) := by decide +kernel
theorem dX6_draw_104 : decode cX6_draw 104 = .ok (.istore_n 3, 1) := by decide +kernel
theorem dX6_draw_105 : decode cX6_draw 105 = .ok (.iload_n 3, 1) := by decide +kernel
theorem dX6_draw_106 : decode cX6_draw 106 = .ok (.aload_n 1, 1) := by decide +kernel
theorem dX6_draw_107 : decode cX6_draw 107 = .ok (.getfield 28, 3) := by decide +kernel
theorem dX6_draw_110 : decode cX6_draw 110 = .ok (.getfield 53, 3) := by decide +kernel
theorem dX6_draw_113 : decode cX6_draw 113 = .ok (.if_icmp .ge 24, 3) := by decide +kernel
theorem dX6_draw_116 : decode cX6_draw 116 = .ok (.aload_n 0, 1) := by decide +kernel
theorem dX6_draw_117 : decode cX6_draw 117 = .ok (.aload_n 1, 1) := by decide +kernel
theorem dX6_draw_118 : decode cX6_draw 118 = .ok (.getfield 56, 3) := by decide +kernel
theorem dX6_draw_121 : decode cX6_draw 121 = .ok (.iload_n 2, 1) := by decide +kernel
theorem dX6_draw_122 : decode cX6_draw 122 = .ok (.bipush 6, 2) := by decide +kernel
theorem dX6_draw_124 : decode cX6_draw 124 = .ok (.imul, 1) := by decide +kernel
theorem dX6_draw_125 : decode cX6_draw 125 = .ok (.iload_n 3, 1) := by decide +kernel
theorem dX6_draw_126 : decode cX6_draw 126 = .ok (.iadd, 1) := by decide +kernel
theorem dX6_draw_127 : decode cX6_draw 127 = .ok (.iaload, 1) := by decide +kernel
theorem dX6_draw_128 : decode cX6_draw 128 = .ok (.invokevirtual 24, 3) := by decide +kernel
theorem dX6_draw_131 : decode cX6_draw 131 = .ok (.iinc 3 1, 3) := by decide +kernel
theorem dX6_draw_134 : decode cX6_draw 134 = .ok (.goto (-29), 3) := by decide +kernel
theorem dX6_draw_137 : decode cX6_draw 137 = .ok (.iinc 2 1, 3) := by decide +kernel
theorem dX6_draw_140 : decode cX6_draw 140 = .ok (.goto (-48), 3) := by decide +kernel
theorem dX6_draw_143 : decode cX6_draw 143 = .ok (.aload_n 0, 1) := by decide +kernel
theorem dX6_draw_144 : decode cX6_draw 144 = .ok (.aload_n 0, 1) := by decide +kernel
theorem dX6_draw_145 : decode cX6_draw 145 = .ok (.getfield 11, 3) := by decide +kernel
theorem dX6_draw_148 : decode cX6_draw 148 = .ok (.aload_n 0, 1) := by decide +kernel
theorem dX6_draw_149 : decode cX6_draw 149 = .ok (.getfield 15, 3) := by decide +kernel
theorem dX6_draw_152 : decode cX6_draw 152 = .ok (.invokestatic 59, 3) := by decide +kernel
theorem dX6_draw_155 : decode cX6_draw 155 = .ok (.invokevirtual 47, 3) := by decide +kernel
theorem dX6_draw_158 : decode cX6_draw 158 = .ok (.return_, 1) := by decide +kernel
theorem dX6_put_0 : decode cX6_put 0 = .ok (.aload_n 0, 1) := by decide +kernel
theorem dX6_put_1 : decode cX6_put 1 = .ok (.getfield 15, 3) := by decide +kernel
theorem dX6_put_4 : decode cX6_put 4 = .ok (.bipush 107, 2) := by decide +kernel
theorem dX6_put_6 : decode cX6_put 6 = .ok (.if_icmp .ge 23, 3) := by decide +kernel
theorem dX6_put_9 : decode cX6_put 9 = .ok (.aload_n 0, 1) := by decide +kernel
theorem dX6_put_10 : decode cX6_put 10 = .ok (.getfield 11, 3) := by decide +kernel
theorem dX6_put_13 : decode cX6_put 13 = .ok (.aload_n 0, 1) := by decide +kernel
theorem dX6_put_14 : decode cX6_put 14 = .ok (.getfield 15, 3) := by decide +kernel
theorem dX6_put_17 : decode cX6_put 17 = .ok (.iload_n 1, 1) := by decide +kernel
theorem dX6_put_18 : decode cX6_put 18 = .ok (.iastore, 1) := by decide +kernel
theorem dX6_put_19 : decode cX6_put 19 = .ok (.aload_n 0, 1) := by decide +kernel
theorem dX6_put_20 : decode cX6_put 20 = .ok (.dup, 1) := by decide +kernel
theorem dX6_put_21 : decode cX6_put 21 = .ok (.getfield 15, 3) := by decide +kernel
theorem dX6_put_24 : decode cX6_put 24 = .ok (.iconst 1, 1) := by decide +kernel
theorem dX6_put_25 : decode cX6_put 25 = .ok (.iadd, 1) := by decide +kernel
theorem dX6_put_26 : decode cX6_put 26 = .ok (.putfield 15, 3) := by decide +kernel
theorem dX6_put_29 : decode cX6_put 29 = .ok (.return_, 1) := by decide +kernel
theorem dX6_putPair_0 : decode cX6_putPair 0 = .ok (.aload_n 0, 1) := by decide +kernel
theorem dX6_putPair_1 : decode cX6_putPair 1 = .ok (.iload_n 1, 1) := by decide +kernel
theorem dX6_putPair_2 : decode cX6_putPair 2 = .ok (.sipush 256, 3) := by decide +kernel
theorem dX6_putPair_5 : decode cX6_putPair 5 = .ok (.idiv, 1) := by decide +kernel
theorem dX6_putPair_6 : decode cX6_putPair 6 = .ok (.invokevirtual 47, 3) := by decide +kernel
theorem dX6_putPair_9 : decode cX6_putPair 9 = .ok (.aload_n 0, 1) := by decide +kernel
theorem dX6_putPair_10 : decode cX6_putPair 10 = .ok (.iload_n 1, 1) := by decide +kernel
theorem dX6_putPair_11 : decode cX6_putPair 11 = .ok (.sipush 256, 3) := by decide +kernel
theorem dX6_putPair_14 : decode cX6_putPair 14 = .ok (.irem, 1) := by decide +kernel
theorem dX6_putPair_15 : decode cX6_putPair 15 = .ok (.invokevirtual 47, 3) := by decide +kernel
theorem dX6_putPair_18 : decode cX6_putPair 18 = .ok (.return_, 1) := by decide +kernel
theorem dX6_check_0 : decode cX6_check 0 = .ok (.sipush 149, 3) := by decide +kernel
theorem dX6_check_3 : decode cX6_check 3 = .ok (.istore_n 2, 1) := by decide +kernel
theorem dX6_check_4 : decode cX6_check 4 = .ok (.iconst 0, 1) := by decide +kernel
theorem dX6_check_5 : decode cX6_check 5 = .ok (.istore_n 3, 1) := by decide +kernel
theorem dX6_check_6 : decode cX6_check 6 = .ok (.iload_n 3, 1) := by decide +kernel
theorem dX6_check_7 : decode cX6_check 7 = .ok (.iload_n 1, 1) := by decide +kernel
theorem dX6_check_8 : decode cX6_check 8 = .ok (.if_icmp .ge 21, 3) := by decide +kernel
theorem dX6_check_11 : decode cX6_check 11 = .ok (.iconst 5, 1) := by decide +kernel
theorem dX6_check_12 : decode cX6_check 12 = .ok (.iload_n 2, 1) := by decide +kernel
theorem dX6_check_13 : decode cX6_check 13 = .ok (.imul, 1) := by decide +kernel
theorem dX6_check_14 : decode cX6_check 14 = .ok (.aload_n 0, 1) := by decide +kernel
theorem dX6_check_15 : decode cX6_check 15 = .ok (.iload_n 3, 1) := by decide +kernel
theorem dX6_check_16 : decode cX6_check 16 = .ok (.iaload, 1) := by decide +kernel
theorem dX6_check_17 : decode cX6_check 17 = .ok (.iadd, 1) := by decide +kernel
theorem dX6_check_18 : decode cX6_check 18 = .ok (.sipush 251, 3) := by decide +kernel
theorem dX6_check_21 : decode cX6_check 21 = .ok (.irem, 1) := by decide +kernel
theorem dX6_check_22 : decode cX6_check 22 = .ok (.istore_n 2, 1) := by decide +kernel
theorem dX6_check_23 : decode cX6_check 23 = .ok (.iinc 3 1, 3) := by decide +kernel
theorem dX6_check_26 : decode cX6_check 26 = .ok (.goto (-20), 3) := by decide +kernel
theorem dX6_check_29 : decode cX6_check 29 = .ok (.iload_n 2, 1) := by decide +kernel
theorem dX6_check_30 : decode cX6_check 30 = .ok (.ireturn, 1) := by decide +kernel
theorem dX6_sizeFor_0 : decode cX6_sizeFor 0 = .ok (.iconst 2, 1) := by decide +kernel
theorem dX6_sizeFor_1 : decode cX6_sizeFor 1 = .ok (.iconst 4, 1) := by decide +kernel
theorem dX6_sizeFor_2 : decode cX6_sizeFor 2 = .ok (.aload_n 0, 1) := by decide +kernel
theorem dX6_sizeFor_3 : decode cX6_sizeFor 3 = .ok (.getfield 32, 3) := by decide +kernel
theorem dX6_sizeFor_6 : decode cX6_sizeFor 6 = .ok (.imul, 1) := by decide +kernel
theorem dX6_sizeFor_7 : decode cX6_sizeFor 7 = .ok (.iadd, 1) := by decide +kernel
theorem dX6_sizeFor_8 : decode cX6_sizeFor 8 = .ok (.iconst 2, 1) := by decide +kernel
theorem dX6_sizeFor_9 : decode cX6_sizeFor 9 = .ok (.aload_n 0, 1) := by decide +kernel
theorem dX6_sizeFor_10 : decode cX6_sizeFor 10 = .ok (.getfield 53, 3) := by decide +kernel
theorem dX6_sizeFor_13 : decode cX6_sizeFor 13 = .ok (.imul, 1) := by decide +kernel
theorem dX6_sizeFor_14 : decode cX6_sizeFor 14 = .ok (.aload_n 0, 1) := by decide +kernel
theorem dX6_sizeFor_15 : decode cX6_sizeFor 15 = .ok (.getfield 53, 3) := by decide +kernel
theorem dX6_sizeFor_18 : decode cX6_sizeFor 18 = .ok (.imul, 1) := by decide +kernel
theorem dX6_sizeFor_19 : decode cX6_sizeFor 19 = .ok (.iadd, 1) := by decide +kernel
theorem dX6_sizeFor_20 : decode cX6_sizeFor 20 = .ok (.iconst 1, 1) := by decide +kernel
theorem dX6_sizeFor_21 : decode cX6_sizeFor 21 = .ok (.iadd, 1) := by decide +kernel
theorem dX6_sizeFor_22 : decode cX6_sizeFor 22 = .ok (.ireturn, 1) := by decide +kernel
theorem dX6_restores_0 : decode cX6_restores 0 = .ok (.iload_n 2, 1) := by decide +kernel
theorem dX6_restores_1 : decode cX6_restores 1 = .ok (.aload_n 3, 1) := by decide +kernel
theorem dX6_restores_2 : decode cX6_restores 2 = .ok (.getfield 28, 3) := by decide +kernel
theorem dX6_restores_5 : decode cX6_restores 5 = .ok (.invokestatic 63, 3) := by decide +kernel
theorem dX6_restores_8 : decode cX6_restores 8 = .ok (.if_icmp .ne 18, 3) := by decide +kernel
theorem dX6_restores_11 : decode cX6_restores 11 = .ok (.aload_n 1, 1) := by decide +kernel
theorem dX6_restores_12 : decode cX6_restores 12 = .ok (.iload_n 2, 1) := by decide +kernel
theorem dX6_restores_13 : decode cX6_restores 13 = .ok (.iconst 1, 1) := by decide +kernel
theorem dX6_restores_14 : decode cX6_restores 14 = .ok (.isub, 1) := by decide +kernel
theorem dX6_restores_15 : decode cX6_restores 15 = .ok (.iaload, 1) := by decide +kernel
theorem dX6_restores_16 : decode cX6_restores 16 = .ok (.aload_n 1, 1) := by decide +kernel
theorem dX6_restores_17 : decode cX6_restores 17 = .ok (.iload_n 2, 1) := by decide +kernel
theorem dX6_restores_18 : decode cX6_restores 18 = .ok (.iconst 1, 1) := by decide +kernel
theorem dX6_restores_19 : decode cX6_restores 19 = .ok (.isub, 1) := by decide +kernel
theorem dX6_restores_20 : decode cX6_restores 20 = .ok (.invokestatic 59, 3) := by decide +kernel
theorem dX6_restores_23 : decode cX6_restores 23 = .ok (.if_icmp .eq 5, 3) := by decide +kernel
theorem dX6_restores_26 : decode cX6_restores 26 = .ok (.iconst 0, 1) := by decide +kernel
theorem dX6_restores_27 : decode cX6_restores 27 = .ok (.ireturn, 1) := by decide +kernel
theorem dX6_restores_28 : decode cX6_restores 28 = .ok (.aload_n 3, 1) := by decide +kernel
theorem dX6_restores_29 : decode cX6_restores 29 = .ok (.aload_n 1, 1) := by decide +kernel
theorem dX6_restores_30 : decode cX6_restores 30 = .ok (.iconst 0, 1) := by decide +kernel
theorem dX6_restores_31 : decode cX6_restores 31 = .ok (.invokestatic 67, 3) := by decide +kernel
theorem dX6_restores_34 : decode cX6_restores 34 = .ok (.putfield 19, 3) := by decide +kernel
theorem dX6_restores_37 : decode cX6_restores 37 = .ok (.iconst 2, 1) := by decide +kernel
theorem dX6_restores_38 : decode cX6_restores 38 = .ok (.iconst 4, 1) := by decide +kernel
theorem dX6_restores_39 : decode cX6_restores 39 = .ok (.aload_n 3, 1) := by decide +kernel
theorem dX6_restores_40 : decode cX6_restores 40 = .ok (.getfield 28, 3) := by decide +kernel
theorem dX6_restores_43 : decode cX6_restores 43 = .ok (.getfield 32, 3) := by decide +kernel
theorem dX6_restores_46 : decode cX6_restores 46 = .ok (.imul, 1) := by decide +kernel
theorem dX6_restores_47 : decode cX6_restores 47 = .ok (.iadd, 1) := by decide +kernel
theorem dX6_restores_48 : decode cX6_restores 48 = .ok (.istore 4, 2) := by decide +kernel
theorem dX6_restores_50 : decode cX6_restores 50 = .ok (.aload_n 3, 1) := by decide +kernel
theorem dX6_restores_51 : decode cX6_restores 51 = .ok (.getfield 19, 3) := by decide +kernel
theorem dX6_restores_54 : decode cX6_restores 54 = .ok (.sipush 9999, 3) := by decide +kernel
theorem dX6_restores_57 : decode cX6_restores 57 = .ok (.if_icmp .gt 27, 3) := by decide +kernel
theorem dX6_restores_60 : decode cX6_restores 60 = .ok (.aload_n 0, 1) := by decide +kernel
theorem dX6_restores_61 : decode cX6_restores 61 = .ok (.aload_n 1, 1) := by decide +kernel
theorem dX6_restores_62 : decode cX6_restores 62 = .ok (.aload_n 3, 1) := by decide +kernel
theorem dX6_restores_63 : decode cX6_restores 63 = .ok (.invokevirtual 70, 3) := by decide +kernel
theorem dX6_restores_66 : decode cX6_restores 66 = .ok (.ifCond .eq 18, 3) := by decide +kernel
theorem dX6_restores_69 : decode cX6_restores 69 = .ok (.aload_n 0, 1) := by decide +kernel
theorem dX6_restores_70 : decode cX6_restores 70 = .ok (.aload_n 1, 1) := by decide +kernel
theorem dX6_restores_71 : decode cX6_restores 71 = .ok (.iload 4, 2) := by decide +kernel
theorem dX6_restores_73 : decode cX6_restores 73 = .ok (.aload_n 3, 1) := by decide +kernel
theorem dX6_restores_74 : decode cX6_restores 74 = .ok (.invokevirtual 74, 3) := by decide +kernel
theorem dX6_restores_77 : decode cX6_restores 77 = .ok (.ifCond .eq 7, 3) := by decide +kernel
theorem dX6_restores_80 : decode cX6_restores 80 = .ok (.iconst 1, 1) := by decide +kernel
theorem dX6_restores_81 : decode cX6_restores 81 = .ok (.goto 4, 3) := by decide +kernel
theorem dX6_restores_84 : decode cX6_restores 84 = .ok (.iconst 0, 1) := by decide +kernel
theorem dX6_restores_85 : decode cX6_restores 85 = .ok (.ireturn, 1) := by decide +kernel
theorem dX6_pair_0 : decode cX6_pair 0 = .ok (.aload_n 0, 1) := by decide +kernel
theorem dX6_pair_1 : decode cX6_pair 1 = .ok (.iload_n 1, 1) := by decide +kernel
theorem dX6_pair_2 : decode cX6_pair 2 = .ok (.iaload, 1) := by decide +kernel
theorem dX6_pair_3 : decode cX6_pair 3 = .ok (.sipush 256, 3) := by decide +kernel
theorem dX6_pair_6 : decode cX6_pair 6 = .ok (.imul, 1) := by decide +kernel
theorem dX6_pair_7 : decode cX6_pair 7 = .ok (.aload_n 0, 1) := by decide +kernel
theorem dX6_pair_8 : decode cX6_pair 8 = .ok (.iload_n 1, 1) := by decide +kernel
theorem dX6_pair_9 : decode cX6_pair 9 = .ok (.iconst 1, 1) := by decide +kernel
theorem dX6_pair_10 : decode cX6_pair 10 = .ok (.iadd, 1) := by decide +kernel
theorem dX6_pair_11 : decode cX6_pair 11 = .ok (.iaload, 1) := by decide +kernel
theorem dX6_pair_12 : decode cX6_pair 12 = .ok (.iadd, 1) := by decide +kernel
theorem dX6_pair_13 : decode cX6_pair 13 = .ok (.ireturn, 1) := by decide +kernel
theorem dX6_restoresLakes_0 : decode cX6_restoresLakes 0 = .ok (.iconst 0, 1) := by decide +kernel
theorem dX6_restoresLakes_1 : decode cX6_restoresLakes 1 = .ok (.istore_n 3, 1) := by decide +kernel
theorem dX6_restoresLakes_2 : decode cX6_restoresLakes 2 = .ok (.iload_n 3, 1) := by decide +kernel
theorem dX6_restoresLakes_3 : decode cX6_restoresLakes 3 = .ok (.aload_n 2, 1) := by decide +kernel
theorem dX6_restoresLakes_4 : decode cX6_restoresLakes 4 = .ok (.getfield 28, 3) := by decide +kernel
theorem dX6_restoresLakes_7 : decode cX6_restoresLakes 7 = .ok (.getfield 32, 3) := by decide +kernel
theorem dX6_restoresLakes_10 : decode cX6_restoresLakes 10 = .ok (.if_icmp .ge 78, 3) := by decide +kernel
theorem dX6_restoresLakes_13 : decode cX6_restoresLakes 13 = .ok (.iconst 2, 1) := by decide +kernel
theorem dX6_restoresLakes_14 : decode cX6_restoresLakes 14 = .ok (.iconst 4, 1) := by decide +kernel
theorem dX6_restoresLakes_15 : decode cX6_restoresLakes 15 = .ok (.iload_n 3, 1) := by decide +kernel
theorem dX6_restoresLakes_16 : decode cX6_restoresLakes 16 = .ok (.imul, 1) := by decide +kernel
theorem dX6_restoresLakes_17 : decode cX6_restoresLakes 17 = .ok (.iadd, 1) := by decide +kernel
theorem dX6_restoresLakes_18 : decode cX6_restoresLakes 18 = .ok (.istore 4, 2) := by decide +kernel
theorem dX6_restoresLakes_20 : decode cX6_restoresLakes 20 = .ok (.aload_n 1, 1) := by decide +kernel
theorem dX6_restoresLakes_21 : decode cX6_restoresLakes 21 = .ok (.iload 4, 2) := by decide +kernel
theorem dX6_restoresLakes_23 : decode cX6_restoresLakes 23 = .ok (.invokestatic 67, 3) := by decide +kernel
theorem dX6_restoresLakes_26 : decode cX6_restoresLakes 26 = .ok (.aload_n 1, 1) := by decide +kernel
theorem dX6_restoresLakes_27 : decode cX6_restoresLakes 27 = .ok (.iload 4, 2) := by decide +kernel
theorem dX6_restoresLakes_29 : decode cX6_restoresLakes 29 = .ok (.iconst 2, 1) := by decide +kernel
theorem dX6_restoresLakes_30 : decode cX6_restoresLakes 30 = .ok (.iadd, 1) := by decide +kernel
theorem dX6_restoresLakes_31 : decode cX6_restoresLakes 31 = .ok (.iaload, 1) := by decide +kernel
theorem dX6_restoresLakes_32 : decode cX6_restoresLakes 32 = .ok (.aload_n 1, 1) := by decide +kernel
theorem dX6_restoresLakes_33 : decode cX6_restoresLakes 33 = .ok (.iload 4, 2) := by decide +kernel
theorem dX6_restoresLakes_35 : decode cX6_restoresLakes 35 = .ok (.iconst 3, 1) := by decide +kernel
theorem dX6_restoresLakes_36 : decode cX6_restoresLakes 36 = .ok (.iadd, 1) := by decide +kernel
theorem dX6_restoresLakes_37 : decode cX6_restoresLakes 37 = .ok (.iaload, 1) := by decide +kernel
theorem dX6_restoresLakes_38 : decode cX6_restoresLakes 38 = .ok (.aload_n 2, 1) := by decide +kernel
theorem dX6_restoresLakes_39 : decode cX6_restoresLakes 39 = .ok (.invokestatic 78, 3) := by decide +kernel
theorem dX6_restoresLakes_42 : decode cX6_restoresLakes 42 = .ok (.ifCond .ne 5, 3) := by decide +kernel
theorem dX6_restoresLakes_45 : decode cX6_restoresLakes 45 = .ok (.iconst 0, 1) := by decide +kernel
theorem dX6_restoresLakes_46 : decode cX6_restoresLakes 46 = .ok (.ireturn, 1) := by decide +kernel
theorem dX6_restoresLakes_47 : decode cX6_restoresLakes 47 = .ok (.aload_n 2, 1) := by decide +kernel
theorem dX6_restoresLakes_48 : decode cX6_restoresLakes 48 = .ok (.getfield 44, 3) := by decide +kernel
theorem dX6_restoresLakes_51 : decode cX6_restoresLakes 51 = .ok (.iload_n 3, 1) := by decide +kernel
theorem dX6_restoresLakes_52 : decode cX6_restoresLakes 52 = .ok (.aload_n 1, 1) := by decide +kernel
theorem dX6_restoresLakes_53 : decode cX6_restoresLakes 53 = .ok (.iload 4, 2) := by decide +kernel
theorem dX6_restoresLakes_55 : decode cX6_restoresLakes 55 = .ok (.iconst 2, 1) := by decide +kernel
theorem dX6_restoresLakes_56 : decode cX6_restoresLakes 56 = .ok (.iadd, 1) := by decide +kernel
theorem dX6_restoresLakes_57 : decode cX6_restoresLakes 57 = .ok (.iaload, 1) := by decide +kernel
theorem dX6_restoresLakes_58 : decode cX6_restoresLakes 58 = .ok (.iastore, 1) := by decide +kernel
theorem dX6_restoresLakes_59 : decode cX6_restoresLakes 59 = .ok (.aload_n 2, 1) := by decide +kernel
theorem dX6_restoresLakes_60 : decode cX6_restoresLakes 60 = .ok (.getfield 50, 3) := by decide +kernel
theorem dX6_restoresLakes_63 : decode cX6_restoresLakes 63 = .ok (.iload_n 3, 1) := by decide +kernel
theorem dX6_restoresLakes_64 : decode cX6_restoresLakes 64 = .ok (.aload_n 1, 1) := by decide +kernel
theorem dX6_restoresLakes_65 : decode cX6_restoresLakes 65 = .ok (.iload 4, 2) := by decide +kernel
theorem dX6_restoresLakes_67 : decode cX6_restoresLakes 67 = .ok (.iconst 3, 1) := by decide +kernel
theorem dX6_restoresLakes_68 : decode cX6_restoresLakes 68 = .ok (.iadd, 1) := by decide +kernel
theorem dX6_restoresLakes_69 : decode cX6_restoresLakes 69 = .ok (.iaload, 1) := by decide +kernel
theorem dX6_restoresLakes_70 : decode cX6_restoresLakes 70 = .ok (.iastore, 1) := by decide +kernel
theorem dX6_restoresLakes_71 : decode cX6_restoresLakes 71 = .ok (.aload_n 2, 1) := by decide +kernel
theorem dX6_restoresLakes_72 : decode cX6_restoresLakes 72 = .ok (.iload_n 3, 1) := by decide +kernel
theorem dX6_restoresLakes_73 : decode cX6_restoresLakes 73 = .ok (.aload_n 1, 1) := by decide +kernel
theorem dX6_restoresLakes_74 : decode cX6_restoresLakes 74 = .ok (.iload 4, 2) := by decide +kernel
theorem dX6_restoresLakes_76 : decode cX6_restoresLakes 76 = .ok (.invokestatic 67, 3) := by decide +kernel
theorem dX6_restoresLakes_79 : decode cX6_restoresLakes 79 = .ok (.invokevirtual 82, 3) := by decide +kernel
theorem dX6_restoresLakes_82 : decode cX6_restoresLakes 82 = .ok (.iinc 3 1, 3) := by decide +kernel
theorem dX6_restoresLakes_85 : decode cX6_restoresLakes 85 = .ok (.goto (-83), 3) := by decide +kernel
theorem dX6_restoresLakes_88 : decode cX6_restoresLakes 88 = .ok (.iconst 0, 1) := by decide +kernel
theorem dX6_restoresLakes_89 : decode cX6_restoresLakes 89 = .ok (.istore_n 3, 1) := by decide +kernel
theorem dX6_restoresLakes_90 : decode cX6_restoresLakes 90 = .ok (.iload_n 3, 1) := by decide +kernel
theorem dX6_restoresLakes_91 : decode cX6_restoresLakes 91 = .ok (.aload_n 2, 1) := by decide +kernel
theorem dX6_restoresLakes_92 : decode cX6_restoresLakes 92 = .ok (.getfield 28, 3) := by decide +kernel
theorem dX6_restoresLakes_95 : decode cX6_restoresLakes 95 = .ok (.getfield 86, 3) := by decide +kernel
theorem dX6_restoresLakes_98 : decode cX6_restoresLakes 98 = .ok (.if_icmp .ge 19, 3) := by decide +kernel
theorem dX6_restoresLakes_101 : decode cX6_restoresLakes 101 = .ok (.aload_n 2, 1) := by decide +kernel
theorem dX6_restoresLakes_102 : decode cX6_restoresLakes 102 = .ok (.iload_n 3, 1) := by decide +kernel
theorem dX6_restoresLakes_103 : decode cX6_restoresLakes 103 = .ok (.invokevirtual 89, 3) := by decide +kernel
theorem dX6_restoresLakes_106 : decode cX6_restoresLakes 106 = .ok (.ifCond .ge 5, 3) := by decide +kernel
theorem dX6_restoresLakes_109 : decode cX6_restoresLakes 109 = .ok (.iconst 0, 1) := by decide +kernel
theorem dX6_restoresLakes_110 : decode cX6_restoresLakes 110 = .ok (.ireturn, 1) := by decide +kernel
theorem dX6_restoresLakes_111 : decode cX6_restoresLakes 111 = .ok (.iinc 3 1, 3) := by decide +kernel
theorem dX6_restoresLakes_114 : decode cX6_restoresLakes 114 = .ok (.goto (-24), 3) := by decide +kernel
theorem dX6_restoresLakes_117 : decode cX6_restoresLakes 117 = .ok (.iconst 1, 1) := by decide +kernel
theorem dX6_restoresLakes_118 : decode cX6_restoresLakes 118 = .ok (.ireturn, 1) := by decide +kernel
theorem dX6_isLakeRow_0 : decode cX6_isLakeRow 0 = .ok (.iload_n 0, 1) := by decide +kernel
theorem dX6_isLakeRow_1 : decode cX6_isLakeRow 1 = .ok (.ifCond .ne 23, 3) := by decide +kernel
theorem dX6_isLakeRow_4 : decode cX6_isLakeRow 4 = .ok (.iload_n 1, 1) := by decide +kernel
theorem dX6_isLakeRow_5 : decode cX6_isLakeRow 5 = .ok (.sipush 255, 3) := by decide +kernel
theorem dX6_isLakeRow_8 : decode cX6_isLakeRow 8 = .ok (.if_icmp .ne 14, 3) := by decide +kernel
theorem dX6_isLakeRow_11 : decode cX6_isLakeRow 11 = .ok (.iload_n 2, 1) := by decide +kernel
theorem dX6_isLakeRow_12 : decode cX6_isLakeRow 12 = .ok (.sipush 255, 3) := by decide +kernel
theorem dX6_isLakeRow_15 : decode cX6_isLakeRow 15 = .ok (.if_icmp .ne 7, 3) := by decide +kernel
theorem dX6_isLakeRow_18 : decode cX6_isLakeRow 18 = .ok (.iconst 1, 1) := by decide +kernel
theorem dX6_isLakeRow_19 : decode cX6_isLakeRow 19 = .ok (.goto 4, 3) := by decide +kernel
theorem dX6_isLakeRow_22 : decode cX6_isLakeRow 22 = .ok (.iconst 0, 1) := by decide +kernel
theorem dX6_isLakeRow_23 : decode cX6_isLakeRow 23 = .ok (.ireturn, 1) := by decide +kernel
theorem dX6_isLakeRow_24 : decode cX6_isLakeRow 24 = .ok (.iload_n 0, 1) := by decide +kernel
theorem dX6_isLakeRow_25 : decode cX6_isLakeRow 25 = .ok (.sipush 999, 3) := by decide +kernel
theorem dX6_isLakeRow_28 : decode cX6_isLakeRow 28 = .ok (.if_icmp .gt 23, 3) := by decide +kernel
theorem dX6_isLakeRow_31 : decode cX6_isLakeRow 31 = .ok (.aload_n 3, 1) := by decide +kernel
theorem dX6_isLakeRow_32 : decode cX6_isLakeRow 32 = .ok (.iload_n 1, 1) := by decide +kernel
theorem dX6_isLakeRow_33 : decode cX6_isLakeRow 33 = .ok (.invokevirtual 93, 3) := by decide +kernel
theorem dX6_isLakeRow_36 : decode cX6_isLakeRow 36 = .ok (.ifCond .eq 15, 3) := by decide +kernel
theorem dX6_isLakeRow_39 : decode cX6_isLakeRow 39 = .ok (.aload_n 3, 1) := by decide +kernel
theorem dX6_isLakeRow_40 : decode cX6_isLakeRow 40 = .ok (.iload_n 2, 1) := by decide +kernel
theorem dX6_isLakeRow_41 : decode cX6_isLakeRow 41 = .ok (.invokevirtual 96, 3) := by decide +kernel
theorem dX6_isLakeRow_44 : decode cX6_isLakeRow 44 = .ok (.ifCond .eq 7, 3) := by decide +kernel
theorem dX6_isLakeRow_47 : decode cX6_isLakeRow 47 = .ok (.iconst 1, 1) := by decide +kernel
theorem dX6_isLakeRow_48 : decode cX6_isLakeRow 48 = .ok (.goto 4, 3) := by decide +kernel
theorem dX6_isLakeRow_51 : decode cX6_isLakeRow 51 = .ok (.iconst 0, 1) := by decide +kernel
theorem dX6_isLakeRow_52 : decode cX6_isLakeRow 52 = .ok (.ireturn, 1) := by decide +kernel
theorem dX6_restoresDebts_0 : decode cX6_restoresDebts 0 = .ok (.iload_n 2, 1) := by decide +kernel
theorem dX6_restoresDebts_1 : decode cX6_restoresDebts 1 = .ok (.istore 4, 2) := by decide +kernel
theorem dX6_restoresDebts_3 : decode cX6_restoresDebts 3 = .ok (.iconst 0, 1) := by decide +kernel
theorem dX6_restoresDebts_4 : decode cX6_restoresDebts 4 = .ok (.istore 5, 2) := by decide +kernel
theorem dX6_restoresDebts_6 : decode cX6_restoresDebts 6 = .ok (.iload 5, 2) := by decide +kernel
theorem dX6_restoresDebts_8 : decode cX6_restoresDebts 8 = .ok (.aload_n 3, 1) := by decide +kernel
theorem dX6_restoresDebts_9 : decode cX6_restoresDebts 9 = .ok (.getfield 28, 3) := by decide +kernel
theorem dX6_restoresDebts_12 : decode cX6_restoresDebts 12 = .ok (.getfield 53, 3) := by decide +kernel
theorem dX6_restoresDebts_15 : decode cX6_restoresDebts 15 = .ok (.if_icmp .ge 78, 3) := by decide +kernel
theorem dX6_restoresDebts_18 : decode cX6_restoresDebts 18 = .ok (.iconst 0, 1) := by decide +kernel
theorem dX6_restoresDebts_19 : decode cX6_restoresDebts 19 = .ok (.istore 6, 2) := by decide +kernel
theorem dX6_restoresDebts_21 : decode cX6_restoresDebts 21 = .ok (.iload 6, 2) := by decide +kernel
theorem dX6_restoresDebts_23 : decode cX6_restoresDebts 23 = .ok (.aload_n 3, 1) := by decide +kernel
theorem dX6_restoresDebts_24 : decode cX6_restoresDebts 24 = .ok (.getfield 28, 3) := by decide +kernel
theorem dX6_restoresDebts_27 : decode cX6_restoresDebts 27 = .ok (.getfield 53, 3) := by decide +kernel
theorem dX6_restoresDebts_30 : decode cX6_restoresDebts 30 = .ok (.if_icmp .ge 57, 3) := by decide +kernel
theorem dX6_restoresDebts_33 : decode cX6_restoresDebts 33 = .ok (.aload_n 1, 1) := by decide +kernel
theorem dX6_restoresDebts_34 : decode cX6_restoresDebts 34 = .ok (.iload 4, 2) := by decide +kernel
theorem dX6_restoresDebts_36 : decode cX6_restoresDebts 36 = .ok (.invokestatic 67, 3) := by decide +kernel
theorem dX6_restoresDebts_39 : decode cX6_restoresDebts 39 = .ok (.istore 7, 2) := by decide +kernel
theorem dX6_restoresDebts_41 : decode cX6_restoresDebts 41 = .ok (.iload 7, 2) := by decide +kernel
theorem dX6_restoresDebts_43 : decode cX6_restoresDebts 43 = .ok (.sipush 9999, 3) := by decide +kernel
theorem dX6_restoresDebts_46 : decode cX6_restoresDebts 46 = .ok (.if_icmp .gt 15, 3) := by decide +kernel
theorem dX6_restoresDebts_49 : decode cX6_restoresDebts 49 = .ok (.iload 5, 2) := by decide +kernel
theorem dX6_restoresDebts_51 : decode cX6_restoresDebts 51 = .ok (.iload 6, 2) := by decide +kernel
theorem dX6_restoresDebts_53 : decode cX6_restoresDebts 53 = .ok (.if_icmp .ne 10, 3) := by decide +kernel
theorem dX6_restoresDebts_56 : decode cX6_restoresDebts 56 = .ok (.iload 7, 2) := by decide +kernel
theorem dX6_restoresDebts_58 : decode cX6_restoresDebts 58 = .ok (.ifCond .le 5, 3) := by decide +kernel
theorem dX6_restoresDebts_61 : decode cX6_restoresDebts 61 = .ok (.iconst 0, 1) := by decide +kernel
theorem dX6_restoresDebts_62 : decode cX6_restoresDebts 62 = .ok (.ireturn, 1) := by decide +kernel
theorem dX6_restoresDebts_63 : decode cX6_restoresDebts 63 = .ok (.aload_n 3, 1) := by decide +kernel
theorem dX6_restoresDebts_64 : decode cX6_restoresDebts 64 = .ok (.getfield 56, 3) := by decide +kernel
theorem dX6_restoresDebts_67 : decode cX6_restoresDebts 67 = .ok (.iload 5, 2) := by decide +kernel
theorem dX6_restoresDebts_69 : decode cX6_restoresDebts 69 = .ok (.bipush 6, 2) := by decide +kernel
theorem dX6_restoresDebts_71 : decode cX6_restoresDebts 71 = .ok (.imul, 1) := by decide +kernel
theorem dX6_restoresDebts_72 : decode cX6_restoresDebts 72 = .ok (.iload 6, 2) := by decide +kernel
theorem dX6_restoresDebts_74 : decode cX6_restoresDebts 74 = .ok (.iadd, 1) := by decide +kernel
theorem dX6_restoresDebts_75 : decode cX6_restoresDebts 75 = .ok (.iload 7, 2) := by decide +kernel
theorem dX6_restoresDebts_77 : decode cX6_restoresDebts 77 = .ok (.iastore, 1) := by decide +kernel
theorem dX6_restoresDebts_78 : decode cX6_restoresDebts 78 = .ok (.iinc 4 2, 3) := by decide +kernel
theorem dX6_restoresDebts_81 : decode cX6_restoresDebts 81 = .ok (.iinc 6 1, 3) := by decide +kernel
theorem dX6_restoresDebts_84 : decode cX6_restoresDebts 84 = .ok (.goto (-63), 3) := by decide +kernel
theorem dX6_restoresDebts_87 : decode cX6_restoresDebts 87 = .ok (.iinc 5 1, 3) := by decide +kernel
theorem dX6_restoresDebts_90 : decode cX6_restoresDebts 90 = .ok (.goto (-84), 3) := by decide +kernel
theorem dX6_restoresDebts_93 : decode cX6_restoresDebts 93 = .ok (.iconst 1, 1) := by decide +kernel
theorem dX6_restoresDebts_94 : decode cX6_restoresDebts 94 = .ok (.ireturn, 1) := by decide +kernel
theorem dX7_init_0 : decode cX7_init 0 = .ok (.aload_n 0, 1) := by decide +kernel
theorem dX7_init_1 : decode cX7_init 1 = .ok (.invokespecial 3, 3) := by decide +kernel
theorem dX7_init_4 : decode cX7_init 4 = .ok (.aload_n 0, 1) := by decide +kernel
theorem dX7_init_5 : decode cX7_init 5 = .ok (.new 9, 3) := by decide +kernel
theorem dX7_init_8 : decode cX7_init 8 = .ok (.dup, 1) := by decide +kernel
theorem dX7_init_9 : decode cX7_init 9 = .ok (.aload_n 1, 1) := by decide +kernel
theorem dX7_init_10 : decode cX7_init 10 = .ok (.invokespecial 11, 3) := by decide +kernel
theorem dX7_init_13 : decode cX7_init 13 = .ok (.putfield 14, 3) := by decide +kernel
theorem dX7_init_16 : decode cX7_init 16 = .ok (.aload_n 0, 1) := by decide +kernel
theorem dX7_init_17 : decode cX7_init 17 = .ok (.new 20, 3) := by decide +kernel
theorem dX7_init_20 : decode cX7_init 20 = .ok (.dup, 1) := by decide +kernel
theorem dX7_init_21 : decode cX7_init 21 = .ok (.aload_n 0, 1) := by decide +kernel
theorem dX7_init_22 : decode cX7_init 22 = .ok (.getfield 14, 3) := by decide +kernel
theorem dX7_init_25 : decode cX7_init 25 = .ok (.invokespecial 22, 3) := by decide +kernel
theorem dX7_init_28 : decode cX7_init 28 = .ok (.putfield 25, 3) := by decide +kernel
theorem dX7_init_31 : decode cX7_init 31 = .ok (.return_, 1) := by decide +kernel
theorem dX7_readAll_0 : decode cX7_readAll 0 = .ok (.aload_n 0, 1) := by decide +kernel
theorem dX7_readAll_1 : decode cX7_readAll 1 = .ok (.aload_n 2, 1) := by decide +kernel
theorem dX7_readAll_2 : decode cX7_readAll 2 = .ok (.putfield 29, 3) := by decide +kernel
theorem dX7_readAll_5 : decode cX7_readAll 5 = .ok (.aload_n 0, 1) := by decide +kernel
theorem dX7_readAll_6 : decode cX7_readAll 6 = .ok (.getfield 29, 3) := by decide +kernel
theorem dX7_readAll_9 : decode cX7_readAll 9 = .ok (.invokevirtual 33, 3) := by decide +kernel
theorem dX7_readAll_12 : decode cX7_readAll 12 = .ok (.aload_n 0, 1) := by decide +kernel
theorem dX7_readAll_13 : decode cX7_readAll 13 = .ok (.getfield 14, 3) := by decide +kernel
theorem dX7_readAll_16 : decode cX7_readAll 16 = .ok (.iload_n 1, 1) := by decide +kernel
theorem dX7_readAll_17 : decode cX7_readAll 17 = .ok (.invokevirtual 38, 3) := by decide +kernel
theorem dX7_readAll_20 : decode cX7_readAll 20 = .ok (.iconst 0, 1) := by decide +kernel
theorem dX7_readAll_21 : decode cX7_readAll 21 = .ok (.istore_n 3, 1) := by decide +kernel
theorem dX7_readAll_22 : decode cX7_readAll 22 = .ok (.iload_n 3, 1) := by decide +kernel
theorem dX7_readAll_23 : decode cX7_readAll 23 = .ok (.bipush 80, 2) := by decide +kernel
theorem dX7_readAll_25 : decode cX7_readAll 25 = .ok (.if_icmp .gt 28, 3) := by decide +kernel
theorem dX7_readAll_28 : decode cX7_readAll 28 = .ok (.aload_n 0, 1) := by decide +kernel
theorem dX7_readAll_29 : decode cX7_readAll 29 = .ok (.getfield 14, 3) := by decide +kernel
theorem dX7_readAll_32 : decode cX7_readAll 32 = .ok (.getfield 42, 3) := by decide +kernel
theorem dX7_readAll_35 : decode cX7_readAll 35 = .ok (.ifCond .eq 18, 3) := by decide +kernel
theorem dX7_readAll_38 : decode cX7_readAll 38 = .ok (.aload_n 0, 1) := by decide +kernel
theorem dX7_readAll_39 : decode cX7_readAll 39 = .ok (.invokevirtual 46, 3) := by decide +kernel
theorem dX7_readAll_42 : decode cX7_readAll 42 = .ok (.ifCond .ne 5, 3) := by decide +kernel
theorem dX7_readAll_45 : decode cX7_readAll 45 = .ok (.iconst 0, 1) := by decide +kernel
theorem dX7_readAll_46 : decode cX7_readAll 46 = .ok (.ireturn, 1) := by decide +kernel
theorem dX7_readAll_47 : decode cX7_readAll 47 = .ok (.iinc 3 1, 3) := by decide +kernel
theorem dX7_readAll_50 : decode cX7_readAll 50 = .ok (.goto (-28), 3) := by decide +kernel
theorem dX7_readAll_53 : decode cX7_readAll 53 = .ok (.iconst 1, 1) := by decide +kernel
theorem dX7_readAll_54 : decode cX7_readAll 54 = .ok (.ireturn, 1) := by decide +kernel
theorem dX7_readStatement_0 : decode cX7_readStatement 0 = .ok (.aload_n 0, 1) := by decide +kernel
theorem dX7_readStatement_1 : decode cX7_readStatement 1 = .ok (.getfield 29, 3) := by decide +kernel
theorem dX7_readStatement_4 : decode cX7_readStatement 4 = .ok (.getfield 50, 3) := by decide +kernel
theorem dX7_readStatement_7 : decode cX7_readStatement 7 = .ok (.bipush 80, 2) := by decide +kernel
theorem dX7_readStatement_9 : decode cX7_readStatement 9 = .ok (.if_icmp .ne 13, 3) := by decide +kernel
theorem dX7_readStatement_12 : decode cX7_readStatement 12 = .ok (.aload_n 0, 1) := by decide +kernel
theorem dX7_readStatement_13 : decode cX7_readStatement 13 = .ok (.getfield 14, 3) := by decide +kernel
theorem dX7_readStatement_16 : decode cX7_readStatement 16 = .ok (.bipush 6, 2) := by decide +kernel
theorem dX7_readStatement_18 : decode cX7_readStatement 18 = .ok (.invokevirtual 53, 3) := by decide +kernel
theorem dX7_readStatement_21 : decode cX7_readStatement 21 = .ok (.ireturn, 1) := by decide +kernel
theorem dX7_readStatement_22 : decode cX7_readStatement 22 = .ok (.aload_n 0, 1) := by decide +kernel
theorem dX7_readStatement_23 : decode cX7_readStatement 23 = .ok (.getfield 14, 3) := by decide +kernel
theorem dX7_readStatement_26 : decode cX7_readStatement 26 = .ok (.iconst 2, 1) := by decide +kernel
theorem dX7_readStatement_27 : decode cX7_readStatement 27 = .ok (.invokevirtual 57, 3) := by decide +kernel
theorem dX7_readStatement_30 : decode cX7_readStatement 30 = .ok (.ifCond .ne 5, 3) := by decide +kernel
theorem dX7_readStatement_33 : decode cX7_readStatement 33 = .ok (.iconst 0, 1) := by decide +kernel
theorem dX7_readStatement_34 : decode cX7_readStatement 34 = .ok (.ireturn, 1) := by decide +kernel
theorem dX7_readStatement_35 : decode cX7_readStatement 35 = .ok (.aload_n 0, 1) := by decide +kernel
theorem dX7_readStatement_36 : decode cX7_readStatement 36 = .ok (.aload_n 0, 1) := by decide +kernel
theorem dX7_readStatement_37 : decode cX7_readStatement 37 = .ok (.getfield 14, 3) := by decide +kernel
theorem dX7_readStatement_40 : decode cX7_readStatement 40 = .ok (.getfield 60, 3) := by decide +kernel
theorem dX7_readStatement_43 : decode cX7_readStatement 43 = .ok (.invokevirtual 63, 3) := by decide +kernel
theorem dX7_readStatement_46 : decode cX7_readStatement 46 = .ok (.ifCond .eq 13, 3) := by decide +kernel
theorem dX7_readStatement_49 : decode cX7_readStatement 49 = .ok (.aload_n 0, 1) := by decide +kernel
theorem dX7_readStatement_50 : decode cX7_readStatement 50 = .ok (.getfield 14, 3) := by decide +kernel
theorem dX7_readStatement_53 : decode cX7_readStatement 53 = .ok (.bipush 6, 2) := by decide +kernel
theorem dX7_readStatement_55 : decode cX7_readStatement 55 = .ok (.invokevirtual 53, 3) := by decide +kernel
theorem dX7_readStatement_58 : decode cX7_readStatement 58 = .ok (.ireturn, 1) := by decide +kernel
theorem dX7_readStatement_59 : decode cX7_readStatement 59 = .ok (.aload_n 0, 1) := by decide +kernel
theorem dX7_readStatement_60 : decode cX7_readStatement 60 = .ok (.getfield 14, 3) := by decide +kernel
theorem dX7_readStatement_63 : decode cX7_readStatement 63 = .ok (.getfield 60, 3) := by decide +kernel
theorem dX7_readStatement_66 : decode cX7_readStatement 66 = .ok (.tableswitch 210 0 24 #[114, 210, 210, 122, 130, 210, 210, 210, 138, 146, 162, 178, 202, 210, 210, 210, 210, 210, 210, 210, 210, 210, 210, 210, 194], 114) := by decide +kernel
theorem dX7_readStatement_180 : decode cX7_readStatement 180 = .ok (.aload_n 0, 1) := by decide +kernel
theorem dX7_readStatement_181 : decode cX7_readStatement 181 = .ok (.invokevirtual 66, 3) := by decide +kernel
theorem dX7_readStatement_184 : decode cX7_readStatement 184 = .ok (.istore_n 1, 1) := by decide +kernel
theorem dX7_readStatement_185 : decode cX7_readStatement 185 = .ok (.goto 99, 3) := by decide +kernel
theorem dX7_readStatement_188 : decode cX7_readStatement 188 = .ok (.aload_n 0, 1) := by decide +kernel
theorem dX7_readStatement_189 : decode cX7_readStatement 189 = .ok (.invokevirtual 69, 3) := by decide +kernel
theorem dX7_readStatement_192 : decode cX7_readStatement 192 = .ok (.istore_n 1, 1) := by decide +kernel
theorem dX7_readStatement_193 : decode cX7_readStatement 193 = .ok (.goto 91, 3) := by decide +kernel
theorem dX7_readStatement_196 : decode cX7_readStatement 196 = .ok (.aload_n 0, 1) := by decide +kernel
theorem dX7_readStatement_197 : decode cX7_readStatement 197 = .ok (.invokevirtual 72, 3) := by decide +kernel
theorem dX7_readStatement_200 : decode cX7_readStatement 200 = .ok (.istore_n 1, 1) := by decide +kernel
theorem dX7_readStatement_201 : decode cX7_readStatement 201 = .ok (.goto 83, 3) := by decide +kernel
theorem dX7_readStatement_204 : decode cX7_readStatement 204 = .ok (.aload_n 0, 1) := by decide +kernel
theorem dX7_readStatement_205 : decode cX7_readStatement 205 = .ok (.invokevirtual 75, 3) := by decide +kernel
theorem dX7_readStatement_208 : decode cX7_readStatement 208 = .ok (.istore_n 1, 1) := by decide +kernel
theorem dX7_readStatement_209 : decode cX7_readStatement 209 = .ok (.goto 75, 3) := by decide +kernel
theorem dX7_readStatement_212 : decode cX7_readStatement 212 = .ok (.aload_n 0, 1) := by decide +kernel
theorem dX7_readStatement_213 : decode cX7_readStatement 213 = .ok (.getfield 25, 3) := by decide +kernel
theorem dX7_readStatement_216 : decode cX7_readStatement 216 = .ok (.iconst 0, 1) := by decide +kernel
theorem dX7_readStatement_217 : decode cX7_readStatement 217 = .ok (.aload_n 0, 1) := by decide +kernel
theorem dX7_readStatement_218 : decode cX7_readStatement 218 = .ok (.getfield 29, 3) := by decide +kernel
theorem dX7_readStatement_221 : decode cX7_readStatement 221 = .ok (.invokevirtual 78, 3) := by decide +kernel
theorem dX7_readStatement_224 : decode cX7_readStatement 224 = .ok (.istore_n 1, 1) := by decide +kernel
theorem dX7_readStatement_225 : decode cX7_readStatement 225 = .ok (.goto 59, 3) := by decide +kernel
theorem dX7_readStatement_228 : decode cX7_readStatement 228 = .ok (.aload_n 0, 1) := by decide +kernel
theorem dX7_readStatement_229 : decode cX7_readStatement 229 = .ok (.getfield 25, 3) := by decide +kernel
theorem dX7_readStatement_232 : decode cX7_readStatement 232 = .ok (.iconst 1, 1) := by decide +kernel
theorem dX7_readStatement_233 : decode cX7_readStatement 233 = .ok (.aload_n 0, 1) := by decide +kernel
theorem dX7_readStatement_234 : decode cX7_readStatement 234 = .ok (.getfield 29, 3) := by decide +kernel
theorem dX7_readStatement_237 : decode cX7_readStatement 237 = .ok (.invokevirtual 78, 3) := by decide +kernel
theorem dX7_readStatement_240 : decode cX7_readStatement 240 = .ok (.istore_n 1, 1) := by decide +kernel
theorem dX7_readStatement_241 : decode cX7_readStatement 241 = .ok (.goto 43, 3) := by decide +kernel
theorem dX7_readStatement_244 : decode cX7_readStatement 244 = .ok (.aload_n 0, 1) := by decide +kernel
theorem dX7_readStatement_245 : decode cX7_readStatement 245 = .ok (.getfield 25, 3) := by decide +kernel
theorem dX7_readStatement_248 : decode cX7_readStatement 248 = .ok (.iconst 2, 1) := by decide +kernel
theorem dX7_readStatement_249 : decode cX7_readStatement 249 = .ok (.aload_n 0, 1) := by decide +kernel
theorem dX7_readStatement_250 : decode cX7_readStatement 250 = .ok (.getfield 29, 3) := by decide +kernel
theorem dX7_readStatement_253 : decode cX7_readStatement 253 = .ok (.invokevirtual 78, 3) := by decide +kernel
theorem dX7_readStatement_256 : decode cX7_readStatement 256 = .ok (.istore_n 1, 1) := by decide +kernel
theorem dX7_readStatement_257 : decode cX7_readStatement 257 = .ok (.goto 27, 3) := by decide +kernel
theorem dX7_readStatement_260 : decode cX7_readStatement 260 = .ok (.aload_n 0, 1) := by decide +kernel
theorem dX7_readStatement_261 : decode cX7_readStatement 261 = .ok (.invokevirtual 82, 3) := by decide +kernel
theorem dX7_readStatement_264 : decode cX7_readStatement 264 = .ok (.istore_n 1, 1) := by decide +kernel
theorem dX7_readStatement_265 : decode cX7_readStatement 265 = .ok (.goto 19, 3) := by decide +kernel
theorem dX7_readStatement_268 : decode cX7_readStatement 268 = .ok (.aload_n 0, 1) := by decide +kernel
theorem dX7_readStatement_269 : decode cX7_readStatement 269 = .ok (.invokevirtual 85, 3) := by decide +kernel
theorem dX7_readStatement_272 : decode cX7_readStatement 272 = .ok (.istore_n 1, 1) := by decide +kernel
theorem dX7_readStatement_273 : decode cX7_readStatement 273 = .ok (.goto 11, 3) := by decide +kernel
theorem dX7_readStatement_276 : decode cX7_readStatement 276 = .ok (.aload_n 0, 1) := by decide +kernel
theorem dX7_readStatement_277 : decode cX7_readStatement 277 = .ok (.getfield 14, 3) := by decide +kernel
theorem dX7_readStatement_280 : decode cX7_readStatement 280 = .ok (.invokevirtual 88, 3) := by decide +kernel
theorem dX7_readStatement_283 : decode cX7_readStatement 283 = .ok (.istore_n 1, 1) := by decide +kernel
theorem dX7_readStatement_284 : decode cX7_readStatement 284 = .ok (.iload_n 1, 1) := by decide +kernel
theorem dX7_readStatement_285 : decode cX7_readStatement 285 = .ok (.ifCond .eq 15, 3) := by decide +kernel
theorem dX7_readStatement_288 : decode cX7_readStatement 288 = .ok (.aload_n 0, 1) := by decide +kernel
theorem dX7_readStatement_289 : decode cX7_readStatement 289 = .ok (.getfield 14, 3) := by decide +kernel
theorem dX7_readStatement_292 : decode cX7_readStatement 292 = .ok (.bipush 59, 2) := by decide +kernel
theorem dX7_readStatement_294 : decode cX7_readStatement 294 = .ok (.invokevirtual 91, 3) := by decide +kernel
theorem dX7_readStatement_297 : decode cX7_readStatement 297 = .ok (.ifCond .ne 5, 3) := by decide +kernel
theorem dX7_readStatement_300 : decode cX7_readStatement 300 = .ok (.iconst 0, 1) := by decide +kernel
theorem dX7_readStatement_301 : decode cX7_readStatement 301 = .ok (.ireturn, 1) := by decide +kernel
theorem dX7_readStatement_302 : decode cX7_readStatement 302 = .ok (.aload_n 0, 1) := by decide +kernel
theorem dX7_readStatement_303 : decode cX7_readStatement 303 = .ok (.getfield 29, 3) := by decide +kernel
theorem dX7_readStatement_306 : decode cX7_readStatement 306 = .ok (.dup, 1) := by decide +kernel
theorem dX7_readStatement_307 : decode cX7_readStatement 307 = .ok (.getfield 50, 3) := by decide +kernel
theorem dX7_readStatement_310 : decode cX7_readStatement 310 = .ok (.iconst 1, 1) := by decide +kernel
theorem dX7_readStatement_311 : decode cX7_readStatement 311 = .ok (.iadd, 1) := by decide +kernel
theorem dX7_readStatement_312 : decode cX7_readStatement 312 = .ok (.putfield 50, 3) := by decide +kernel
theorem dX7_readStatement_315 : decode cX7_readStatement 315 = .ok (.aload_n 0, 1) := by decide +kernel
theorem dX7_readStatement_316 : decode cX7_readStatement 316 = .ok (.getfield 14, 3) := by decide +kernel
theorem dX7_readStatement_319 : decode cX7_readStatement 319 = .ok (.invokevirtual 94, 3) := by decide +kernel
theorem dX7_readStatement_322 : decode cX7_readStatement 322 = .ok (.ireturn, 1) := by decide +kernel
theorem dX7_isOneTooMany_0 : decode cX7_isOneTooMany 0 = .ok (.iload_n 1, 1) := by decide +kernel
theorem dX7_isOneTooMany_1 : decode cX7_isOneTooMany 1 = .ok (.tableswitch 144 0 11 #[63, 144, 144, 81, 99, 144, 144, 144, 144, 117, 126, 135], 63) := by decide +kernel
theorem dX7_isOneTooMany_64 : decode cX7_isOneTooMany 64 = .ok (.aload_n 0, 1) := by decide +kernel
theorem dX7_isOneTooMany_65 : decode cX7_isOneTooMany 65 = .ok (.getfield 29, 3) := by decide +kernel
theorem dX7_isOneTooMany_68 : decode cX7_isOneTooMany 68 = .ok (.getfield 97, 3) := by decide +kernel
theorem dX7_isOneTooMany_71 : decode cX7_isOneTooMany 71 = .ok (.bipush 8, 2) := by decide +kernel
theorem dX7_isOneTooMany_73 : decode cX7_isOneTooMany 73 = .ok (.if_icmp .lt 7, 3) := by decide +kernel
theorem dX7_isOneTooMany_76 : decode cX7_isOneTooMany 76 = .ok (.iconst 1, 1) := by decide +kernel
theorem dX7_isOneTooMany_77 : decode cX7_isOneTooMany 77 = .ok (.goto 4, 3) := by decide +kernel
theorem dX7_isOneTooMany_80 : decode cX7_isOneTooMany 80 = .ok (.iconst 0, 1) := by decide +kernel
theorem dX7_isOneTooMany_81 : decode cX7_isOneTooMany 81 = .ok (.ireturn, 1) := by decide +kernel
theorem dX7_isOneTooMany_82 : decode cX7_isOneTooMany 82 = .ok (.aload_n 0, 1) := by decide +kernel
theorem dX7_isOneTooMany_83 : decode cX7_isOneTooMany 83 = .ok (.getfield 29, 3) := by decide +kernel
theorem dX7_isOneTooMany_86 : decode cX7_isOneTooMany 86 = .ok (.getfield 100, 3) := by decide +kernel
theorem dX7_isOneTooMany_89 : decode cX7_isOneTooMany 89 = .ok (.bipush 6, 2) := by decide +kernel
theorem dX7_isOneTooMany_91 : decode cX7_isOneTooMany 91 = .ok (.if_icmp .lt 7, 3) := by decide +kernel
theorem dX7_isOneTooMany_94 : decode cX7_isOneTooMany 94 = .ok (.iconst 1, 1) := by decide +kernel
theorem dX7_isOneTooMany_95 : decode cX7_isOneTooMany 95 = .ok (.goto 4, 3) := by decide +kernel
theorem dX7_isOneTooMany_98 : decode cX7_isOneTooMany 98 = .ok (.iconst 0, 1) := by decide +kernel
theorem dX7_isOneTooMany_99 : decode cX7_isOneTooMany 99 = .ok (.ireturn, 1) := by decide +kernel
theorem dX7_isOneTooMany_100 : decode cX7_isOneTooMany 100 = .ok (.aload_n 0, 1) := by decide +kernel
theorem dX7_isOneTooMany_101 : decode cX7_isOneTooMany 101 = .ok (.getfield 29, 3) := by decide +kernel
theorem dX7_isOneTooMany_104 : decode cX7_isOneTooMany 104 = .ok (.getfield 103, 3) := by decide +kernel
theorem dX7_isOneTooMany_107 : decode cX7_isOneTooMany 107 = .ok (.bipush 8, 2) := by decide +kernel
theorem dX7_isOneTooMany_109 : decode cX7_isOneTooMany 109 = .ok (.if_icmp .lt 7, 3) := by decide +kernel
theorem dX7_isOneTooMany_112 : decode cX7_isOneTooMany 112 = .ok (.iconst 1, 1) := by decide +kernel
theorem dX7_isOneTooMany_113 : decode cX7_isOneTooMany 113 = .ok (.goto 4, 3) := by decide +kernel
theorem dX7_isOneTooMany_116 : decode cX7_isOneTooMany 116 = .ok (.iconst 0, 1) := by decide +kernel
theorem dX7_isOneTooMany_117 : decode cX7_isOneTooMany 117 = .ok (.ireturn, 1) := by decide +kernel
theorem dX7_isOneTooMany_118 : decode cX7_isOneTooMany 118 = .ok (.aload_n 0, 1) := by decide +kernel
theorem dX7_isOneTooMany_119 : decode cX7_isOneTooMany 119 = .ok (.getfield 29, 3) := by decide +kernel
theorem dX7_isOneTooMany_122 : decode cX7_isOneTooMany 122 = .ok (.iconst 0, 1) := by decide +kernel
theorem dX7_isOneTooMany_123 : decode cX7_isOneTooMany 123 = .ok (.invokevirtual 106, 3) := by decide +kernel
theorem dX7_isOneTooMany_126 : decode cX7_isOneTooMany 126 = .ok (.ireturn, 1) := by decide +kernel
theorem dX7_isOneTooMany_127 : decode cX7_isOneTooMany 127 = .ok (.aload_n 0, 1) := by decide +kernel
theorem dX7_isOneTooMany_128 : decode cX7_isOneTooMany 128 = .ok (.getfield 29, 3) := by decide +kernel
theorem dX7_isOneTooMany_131 : decode cX7_isOneTooMany 131 = .ok (.iconst 1, 1) := by decide +kernel
theorem dX7_isOneTooMany_132 : decode cX7_isOneTooMany 132 = .ok (.invokevirtual 106, 3) := by decide +kernel
theorem dX7_isOneTooMany_135 : decode cX7_isOneTooMany 135 = .ok (.ireturn, 1) := by decide +kernel
theorem dX7_isOneTooMany_136 : decode cX7_isOneTooMany 136 = .ok (.aload_n 0, 1) := by decide +kernel
theorem dX7_isOneTooMany_137 : decode cX7_isOneTooMany 137 = .ok (.getfield 29, 3) := by decide +kernel
theorem dX7_isOneTooMany_140 : decode cX7_isOneTooMany 140 = .ok (.iconst 2, 1) := by decide +kernel
theorem dX7_isOneTooMany_141 : decode cX7_isOneTooMany 141 = .ok (.invokevirtual 106, 3) := by decide +kernel
theorem dX7_isOneTooMany_144 : decode cX7_isOneTooMany 144 = .ok (.ireturn, 1) := by decide +kernel
theorem dX7_isOneTooMany_145 : decode cX7_isOneTooMany 145 = .ok (.iconst 0, 1) := by decide +kernel
theorem dX7_isOneTooMany_146 : decode cX7_isOneTooMany 146 = .ok (.ireturn, 1) := by decide +kernel
theorem dX7_readHollow_0 : decode cX7_readHollow 0 = .ok (.aload_n 0, 1) := by decide +kernel
theorem dX7_readHollow_1 : decode cX7_readHollow 1 = .ok (.getfield 14, 3) := by decide +kernel
theorem dX7_readHollow_4 : decode cX7_readHollow 4 = .ok (.invokevirtual 94, 3) := by decide +kernel
theorem dX7_readHollow_7 : decode cX7_readHollow 7 = .ok (.pop, 1) := by decide +kernel
theorem dX7_readHollow_8 : decode cX7_readHollow 8 = .ok (.aload_n 0, 1) := by decide +kernel
theorem dX7_readHollow_9 : decode cX7_readHollow 9 = .ok (.invokevirtual 109, 3) := by decide +kernel
theorem dX7_readHollow_12 : decode cX7_readHollow 12 = .ok (.ifCond .ne 5, 3) := by decide +kernel
theorem dX7_readHollow_15 : decode cX7_readHollow 15 = .ok (.iconst 0, 1) := by decide +kernel
theorem dX7_readHollow_16 : decode cX7_readHollow 16 = .ok (.ireturn, 1) := by decide +kernel
theorem dX7_readHollow_17 : decode cX7_readHollow 17 = .ok (.aload_n 0, 1) := by decide +kernel
theorem dX7_readHollow_18 : decode cX7_readHollow 18 = .ok (.getfield 112, 3) := by decide +kernel
theorem dX7_readHollow_21 : decode cX7_readHollow 21 = .ok (.istore_n 1, 1) := by decide +kernel
theorem dX7_readHollow_22 : decode cX7_readHollow 22 = .ok (.aload_n 0, 1) := by decide +kernel
theorem dX7_readHollow_23 : decode cX7_readHollow 23 = .ok (.iconst 1, 1) := by decide +kernel
theorem dX7_readHollow_24 : decode cX7_readHollow 24 = .ok (.invokevirtual 115, 3) := by decide +kernel
theorem dX7_readHollow_27 : decode cX7_readHollow 27 = .ok (.ifCond .eq 14, 3) := by decide +kernel
theorem dX7_readHollow_30 : decode cX7_readHollow 30 = .ok (.aload_n 0, 1) := by decide +kernel
theorem dX7_readHollow_31 : decode cX7_readHollow 31 = .ok (.iconst 1, 1) := by decide +kernel
theorem dX7_readHollow_32 : decode cX7_readHollow 32 = .ok (.sipush 999, 3) := by decide +kernel
theorem dX7_readHollow_35 : decode cX7_readHollow 35 = .ok (.invokevirtual 118, 3) := by decide +kernel
theorem dX7_readHollow_38 : decode cX7_readHollow 38 = .ok (.ifCond .ne 5, 3) := by decide +kernel
theorem dX7_readHollow_41 : decode cX7_readHollow 41 = .ok (.iconst 0, 1) := by decide +kernel
theorem dX7_readHollow_42 : decode cX7_readHollow 42 = .ok (.ireturn, 1) := by decide +kernel
theorem dX7_readHollow_43 : decode cX7_readHollow 43 = .ok (.aload_n 0, 1) := by decide +kernel
theorem dX7_readHollow_44 : decode cX7_readHollow 44 = .ok (.getfield 112, 3) := by decide +kernel
theorem dX7_readHollow_47 : decode cX7_readHollow 47 = .ok (.istore_n 2, 1) := by decide +kernel
theorem dX7_readHollow_48 : decode cX7_readHollow 48 = .ok (.aload_n 0, 1) := by decide +kernel
theorem dX7_readHollow_49 : decode cX7_readHollow 49 = .ok (.iconst 2, 1) := by decide +kernel
theorem dX7_readHollow_50 : decode cX7_readHollow 50 = .ok (.invokevirtual 115, 3) := by decide +kernel
theorem dX7_readHollow_53 : decode cX7_readHollow 53 = .ok (.ifCond .eq 13, 3) := by decide +kernel
theorem dX7_readHollow_56 : decode cX7_readHollow 56 = .ok (.aload_n 0, 1) := by decide +kernel
theorem dX7_readHollow_57 : decode cX7_readHollow 57 = .ok (.iconst 0, 1) := by decide +kernel
theorem dX7_readHollow_58 : decode cX7_readHollow 58 = .ok (.bipush 99, 2) := by decide +kernel
theorem dX7_readHollow_60 : decode cX7_readHollow 60 = .ok (.invokevirtual 118, 3) := by decide +kernel
theorem dX7_readHollow_63 : decode cX7_readHollow 63 = .ok (.ifCond .ne 5, 3) := by decide +kernel
theorem dX7_readHollow_66 : decode cX7_readHollow 66 = .ok (.iconst 0, 1) := by decide +kernel
theorem dX7_readHollow_67 : decode cX7_readHollow 67 = .ok (.ireturn, 1) := by decide +kernel
theorem dX7_readHollow_68 : decode cX7_readHollow 68 = .ok (.aload_n 0, 1) := by decide +kernel
theorem dX7_readHollow_69 : decode cX7_readHollow 69 = .ok (.getfield 29, 3) := by decide +kernel
theorem dX7_readHollow_72 : decode cX7_readHollow 72 = .ok (.getfield 122, 3) := by decide +kernel
theorem dX7_readHollow_75 : decode cX7_readHollow 75 = .ok (.aload_n 0, 1) := by decide +kernel
theorem dX7_readHollow_76 : decode cX7_readHollow 76 = .ok (.getfield 29, 3) := by decide +kernel
theorem dX7_readHollow_79 : decode cX7_readHollow 79 = .ok (.getfield 97, 3) := by decide +kernel
theorem dX7_readHollow_82 : decode cX7_readHollow 82 = .ok (.iload_n 1, 1) := by decide +kernel
theorem dX7_readHollow_83 : decode cX7_readHollow 83 = .ok (.iastore, 1) := by decide +kernel
theorem dX7_readHollow_84 : decode cX7_readHollow 84 = .ok (.aload_n 0, 1) := by decide +kernel
theorem dX7_readHollow_85 : decode cX7_readHollow 85 = .ok (.getfield 29, 3) := by decide +kernel
theorem dX7_readHollow_88 : decode cX7_readHollow 88 = .ok (.getfield 126, 3) := by decide +kernel
theorem dX7_readHollow_91 : decode cX7_readHollow 91 = .ok (.aload_n 0, 1) := by decide +kernel
theorem dX7_readHollow_92 : decode cX7_readHollow 92 = .ok (.getfield 29, 3) := by decide +kernel
theorem dX7_readHollow_95 : decode cX7_readHollow 95 = .ok (.getfield 97, 3) := by decide +kernel
theorem dX7_readHollow_98 : decode cX7_readHollow 98 = .ok (.iload_n 2, 1) := by decide +kernel
theorem dX7_readHollow_99 : decode cX7_readHollow 99 = .ok (.iastore, 1) := by decide +kernel
theorem dX7_readHollow_100 : decode cX7_readHollow 100 = .ok (.aload_n 0, 1) := by decide +kernel
theorem dX7_readHollow_101 : decode cX7_readHollow 101 = .ok (.getfield 29, 3) := by decide +kernel
theorem dX7_readHollow_104 : decode cX7_readHollow 104 = .ok (.getfield 129, 3) := by decide +kernel
theorem dX7_readHollow_107 : decode cX7_readHollow 107 = .ok (.aload_n 0, 1) := by decide +kernel
theorem dX7_readHollow_108 : decode cX7_readHollow 108 = .ok (.getfield 29, 3) := by decide +kernel
theorem dX7_readHollow_111 : decode cX7_readHollow 111 = .ok (.getfield 97, 3) := by decide +kernel
theorem dX7_readHollow_114 : decode cX7_readHollow 114 = .ok (.aload_n 0, 1) := by decide +kernel
theorem dX7_readHollow_115 : decode cX7_readHollow 115 = .ok (.getfield 112, 3) := by decide +kernel
theorem dX7_readHollow_118 : decode cX7_readHollow 118 = .ok (.iastore, 1) := by decide +kernel
theorem dX7_readHollow_119 : decode cX7_readHollow 119 = .ok (.aload_n 0, 1) := by decide +kernel
theorem dX7_readHollow_120 : decode cX7_readHollow 120 = .ok (.getfield 29, 3) := by decide +kernel
theorem dX7_readHollow_123 : decode cX7_readHollow 123 = .ok (.dup, 1) := by decide +kernel
theorem dX7_readHollow_124 : decode cX7_readHollow 124 = .ok (.getfield 97, 3) := by decide +kernel
theorem dX7_readHollow_127 : decode cX7_readHollow 127 = .ok (.iconst 1, 1) := by decide +kernel
theorem dX7_readHollow_128 : decode cX7_readHollow 128 = .ok (.iadd, 1) := by decide +kernel
theorem dX7_readHollow_129 : decode cX7_readHollow 129 = .ok (.putfield 97, 3) := by decide +kernel
theorem dX7_readHollow_132 : decode cX7_readHollow 132 = .ok (.iconst 1, 1) := by decide +kernel
theorem dX7_readHollow_133 : decode cX7_readHollow 133 = .ok (.ireturn, 1) := by decide +kernel
theorem dX7_readOwner_0 : decode cX7_readOwner 0 = .ok (.aload_n 0, 1) := by decide +kernel
theorem dX7_readOwner_1 : decode cX7_readOwner 1 = .ok (.getfield 14, 3) := by decide +kernel
theorem dX7_readOwner_4 : decode cX7_readOwner 4 = .ok (.invokevirtual 94, 3) := by decide +kernel
theorem dX7_readOwner_7 : decode cX7_readOwner 7 = .ok (.pop, 1) := by decide +kernel
theorem dX7_readOwner_8 : decode cX7_readOwner 8 = .ok (.aload_n 0, 1) := by decide +kernel
theorem dX7_readOwner_9 : decode cX7_readOwner 9 = .ok (.invokevirtual 109, 3) := by decide +kernel
theorem dX7_readOwner_12 : decode cX7_readOwner 12 = .ok (.ifCond .ne 5, 3) := by decide +kernel
theorem dX7_readOwner_15 : decode cX7_readOwner 15 = .ok (.iconst 0, 1) := by decide +kernel
theorem dX7_readOwner_16 : decode cX7_readOwner 16 = .ok (.ireturn, 1) := by decide +kernel
theorem dX7_readOwner_17 : decode cX7_readOwner 17 = .ok (.aload_n 0, 1) := by decide +kernel
theorem dX7_readOwner_18 : decode cX7_readOwner 18 = .ok (.getfield 29, 3) := by decide +kernel
theorem dX7_readOwner_21 : decode cX7_readOwner 21 = .ok (.getfield 132, 3) := by decide +kernel
theorem dX7_readOwner_24 : decode cX7_readOwner 24 = .ok (.aload_n 0, 1) := by decide +kernel
theorem dX7_readOwner_25 : decode cX7_readOwner 25 = .ok (.getfield 29, 3) := by decide +kernel
theorem dX7_readOwner_28 : decode cX7_readOwner 28 = .ok (.getfield 100, 3) := by decide +kernel
theorem dX7_readOwner_31 : decode cX7_readOwner 31 = .ok (.aload_n 0, 1) := by decide +kernel
theorem dX7_readOwner_32 : decode cX7_readOwner 32 = .ok (.getfield 112, 3) := by decide +kernel
theorem dX7_readOwner_35 : decode cX7_readOwner 35 = .ok (.iastore, 1) := by decide +kernel
theorem dX7_readOwner_36 : decode cX7_readOwner 36 = .ok (.aload_n 0, 1) := by decide +kernel
theorem dX7_readOwner_37 : decode cX7_readOwner 37 = .ok (.getfield 29, 3) := by decide +kernel
theorem dX7_readOwner_40 : decode cX7_readOwner 40 = .ok (.dup, 1) := by decide +kernel
theorem dX7_readOwner_41 : decode cX7_readOwner 41 = .ok (.getfield 100, 3) := by decide +kernel
theorem dX7_readOwner_44 : decode cX7_readOwner 44 = .ok (.iconst 1, 1) := by decide +kernel
theorem dX7_readOwner_45 : decode cX7_readOwner 45 = .ok (.iadd, 1) := by decide +kernel
theorem dX7_readOwner_46 : decode cX7_readOwner 46 = .ok (.putfield 100, 3) := by decide +kernel
theorem dX7_readOwner_49 : decode cX7_readOwner 49 = .ok (.iconst 1, 1) := by decide +kernel
theorem dX7_readOwner_50 : decode cX7_readOwner 50 = .ok (.ireturn, 1) := by decide +kernel
theorem dX7_readLake_0 : decode cX7_readLake 0 = .ok (.aload_n 0, 1) := by decide +kernel
theorem dX7_readLake_1 : decode cX7_readLake 1 = .ok (.getfield 14, 3) := by decide +kernel
theorem dX7_readLake_4 : decode cX7_readLake 4 = .ok (.invokevirtual 94, 3) := by decide +kernel
theorem dX7_readLake_7 : decode cX7_readLake 7 = .ok (.pop, 1) := by decide +kernel
theorem dX7_readLake_8 : decode cX7_readLake 8 = .ok (.aload_n 0, 1) := by decide +kernel
theorem dX7_readLake_9 : decode cX7_readLake 9 = .ok (.invokevirtual 109, 3) := by decide +kernel
theorem dX7_readLake_12 : decode cX7_readLake 12 = .ok (.ifCond .ne 5, 3) := by decide +kernel
theorem dX7_readLake_15 : decode cX7_readLake 15 = .ok (.iconst 0, 1) := by decide +kernel
theorem dX7_readLake_16 : decode cX7_readLake 16 = .ok (.ireturn, 1) := by decide +kernel
theorem dX7_readLake_17 : decode cX7_readLake 17 = .ok (.aload_n 0, 1) := by decide +kernel
theorem dX7_readLake_18 : decode cX7_readLake 18 = .ok (.getfield 112, 3) := by decide +kernel
theorem dX7_readLake_21 : decode cX7_readLake 21 = .ok (.istore_n 1, 1) := by decide +kernel
theorem dX7_readLake_22 : decode cX7_readLake 22 = .ok (.aload_n 0, 1) := by decide +kernel
theorem dX7_readLake_23 : decode cX7_readLake 23 = .ok (.iconst 5, 1) := by decide +kernel
theorem dX7_readLake_24 : decode cX7_readLake 24 = .ok (.invokevirtual 115, 3) := by decide +kernel
theorem dX7_readLake_27 : decode cX7_readLake 27 = .ok (.ifCond .eq 14, 3) := by decide +kernel
theorem dX7_readLake_30 : decode cX7_readLake 30 = .ok (.aload_n 0, 1) := by decide +kernel
theorem dX7_readLake_31 : decode cX7_readLake 31 = .ok (.iconst 1, 1) := by decide +kernel
theorem dX7_readLake_32 : decode cX7_readLake 32 = .ok (.sipush 999, 3) := by decide +kernel
theorem dX7_readLake_35 : decode cX7_readLake 35 = .ok (.invokevirtual 118, 3) := by decide +kernel
theorem dX7_readLake_38 : decode cX7_readLake 38 = .ok (.ifCond .ne 5, 3) := by decide +kernel
theorem dX7_readLake_41 : decode cX7_readLake 41 = .ok (.iconst 0, 1) := by decide +kernel
theorem dX7_readLake_42 : decode cX7_readLake 42 = .ok (.ireturn, 1) := by decide +kernel
theorem dX7_readLake_43 : decode cX7_readLake 43 = .ok (.aload_n 0, 1) := by decide +kernel
theorem dX7_readLake_44 : decode cX7_readLake 44 = .ok (.getfield 112, 3) := by decide +kernel
theorem dX7_readLake_47 : decode cX7_readLake 47 = .ok (.istore_n 2, 1) := by decide +kernel
theorem dX7_readLake_48 : decode cX7_readLake 48 = .ok (.aload_n 0, 1) := by decide +kernel
theorem dX7_readLake_49 : decode cX7_readLake 49 = .ok (.bipush 6, 2) := by decide +kernel
theorem dX7_readLake_51 : decode cX7_readLake 51 = .ok (.invokevirtual 115, 3) := by decide +kernel
theorem dX7_readLake_54 : decode cX7_readLake 54 = .ok (.ifCond .eq 11, 3) := by decide +kernel
theorem dX7_readLake_57 : decode cX7_readLake 57 = .ok (.aload_n 0, 1) := by decide +kernel
theorem dX7_readLake_58 : decode cX7_readLake 58 = .ok (.iload_n 2, 1) := by decide +kernel
theorem dX7_readLake_59 : decode cX7_readLake 59 = .ok (.invokevirtual 135, 3) := by decide +kernel
theorem dX7_readLake_62 : decode cX7_readLake 62 = .ok (.ifCond .ne 5, 3) := by decide +kernel
theorem dX7_readLake_65 : decode cX7_readLake 65 = .ok (.iconst 0, 1) := by decide +kernel
theorem dX7_readLake_66 : decode cX7_readLake 66 = .ok (.ireturn, 1) := by decide +kernel
theorem dX7_readLake_67 : decode cX7_readLake 67 = .ok (.aload_n 0, 1) := by decide +kernel
theorem dX7_readLake_68 : decode cX7_readLake 68 = .ok (.getfield 112, 3) := by decide +kernel
theorem dX7_readLake_71 : decode cX7_readLake 71 = .ok (.istore_n 3, 1) := by decide +kernel
theorem dX7_readLake_72 : decode cX7_readLake 72 = .ok (.aload_n 0, 1) := by decide +kernel
theorem dX7_readLake_73 : decode cX7_readLake 73 = .ok (.bipush 7, 2) := by decide +kernel
theorem dX7_readLake_75 : decode cX7_readLake 75 = .ok (.invokevirtual 115, 3) := by decide +kernel
theorem dX7_readLake_78 : decode cX7_readLake 78 = .ok (.ifCond .eq 11, 3) := by decide +kernel
theorem dX7_readLake_81 : decode cX7_readLake 81 = .ok (.aload_n 0, 1) := by decide +kernel
theorem dX7_readLake_82 : decode cX7_readLake 82 = .ok (.iconst (-1), 1) := by decide +kernel
theorem dX7_readLake_83 : decode cX7_readLake 83 = .ok (.invokevirtual 138, 3) := by decide +kernel
theorem dX7_readLake_86 : decode cX7_readLake 86 = .ok (.ifCond .ne 5, 3) := by decide +kernel
theorem dX7_readLake_89 : decode cX7_readLake 89 = .ok (.iconst 0, 1) := by decide +kernel
theorem dX7_readLake_90 : decode cX7_readLake 90 = .ok (.ireturn, 1) := by decide +kernel
theorem dX7_readLake_91 : decode cX7_readLake 91 = .ok (.aload_n 0, 1) := by decide +kernel
theorem dX7_readLake_92 : decode cX7_readLake 92 = .ok (.getfield 29, 3) := by decide +kernel
theorem dX7_readLake_95 : decode cX7_readLake 95 = .ok (.getfield 141, 3) := by decide +kernel
theorem dX7_readLake_98 : decode cX7_readLake 98 = .ok (.aload_n 0, 1) := by decide +kernel
theorem dX7_readLake_99 : decode cX7_readLake 99 = .ok (.getfield 29, 3) := by decide +kernel
theorem dX7_readLake_102 : decode cX7_readLake 102 = .ok (.getfield 103, 3) := by decide +kernel
theorem dX7_readLake_105 : decode cX7_readLake 105 = .ok (.iload_n 1, 1) := by decide +kernel
theorem dX7_readLake_106 : decode cX7_readLake 106 = .ok (.iastore, 1) := by decide +kernel
theorem dX7_readLake_107 : decode cX7_readLake 107 = .ok (.aload_n 0, 1) := by decide +kernel
theorem dX7_readLake_108 : decode cX7_readLake 108 = .ok (.getfield 29, 3) := by decide +kernel
theorem dX7_readLake_111 : decode cX7_readLake 111 = .ok (.getfield 144, 3) := by decide +kernel
theorem dX7_readLake_114 : decode cX7_readLake 114 = .ok (.aload_n 0, 1) := by decide +kernel
theorem dX7_readLake_115 : decode cX7_readLake 115 = .ok (.getfield 29, 3) := by decide +kernel
theorem dX7_readLake_118 : decode cX7_readLake 118 = .ok (.getfield 103, 3) := by decide +kernel
theorem dX7_readLake_121 : decode cX7_readLake 121 = .ok (.iload_n 2, 1) := by decide +kernel
theorem dX7_readLake_122 : decode cX7_readLake 122 = .ok (.iastore, 1) := by decide +kernel
theorem dX7_readLake_123 : decode cX7_readLake 123 = .ok (.aload_n 0, 1) := by decide +kernel
theorem dX7_readLake_124 : decode cX7_readLake 124 = .ok (.getfield 29, 3) := by decide +kernel
theorem dX7_readLake_127 : decode cX7_readLake 127 = .ok (.getfield 147, 3) := by decide +kernel
theorem dX7_readLake_130 : decode cX7_readLake 130 = .ok (.aload_n 0, 1) := by decide +kernel
theorem dX7_readLake_131 : decode cX7_readLake 131 = .ok (.getfield 29, 3) := by decide +kernel
theorem dX7_readLake_134 : decode cX7_readLake 134 = .ok (.getfield 103, 3) := by decide +kernel
theorem dX7_readLake_137 : decode cX7_readLake 137 = .ok (.iload_n 3, 1) := by decide +kernel
theorem dX7_readLake_138 : decode cX7_readLake 138 = .ok (.iastore, 1) := by decide +kernel
theorem dX7_readLake_139 : decode cX7_readLake 139 = .ok (.aload_n 0, 1) := by decide +kernel
theorem dX7_readLake_140 : decode cX7_readLake 140 = .ok (.getfield 29, 3) := by decide +kernel
theorem dX7_readLake_143 : decode cX7_readLake 143 = .ok (.getfield 150, 3) := by decide +kernel
theorem dX7_readLake_146 : decode cX7_readLake 146 = .ok (.aload_n 0, 1) := by decide +kernel
theorem dX7_readLake_147 : decode cX7_readLake 147 = .ok (.getfield 29, 3) := by decide +kernel
theorem dX7_readLake_150 : decode cX7_readLake 150 = .ok (.getfield 103, 3) := by decide +kernel
theorem dX7_readLake_153 : decode cX7_readLake 153 = .ok (.aload_n 0, 1) := by decide +kernel
theorem dX7_readLake_154 : decode cX7_readLake 154 = .ok (.getfield 112, 3) := by decide +kernel
theorem dX7_readLake_157 : decode cX7_readLake 157 = .ok (.iastore, 1) := by decide +kernel
theorem dX7_readLake_158 : decode cX7_readLake 158 = .ok (.aload_n 0, 1) := by decide +kernel
theorem dX7_readLake_159 : decode cX7_readLake 159 = .ok (.getfield 29, 3) := by decide +kernel
theorem dX7_readLake_162 : decode cX7_readLake 162 = .ok (.dup, 1) := by decide +kernel
theorem dX7_readLake_163 : decode cX7_readLake 163 = .ok (.getfield 103, 3) := by decide +kernel
theorem dX7_readLake_166 : decode cX7_readLake 166 = .ok (.iconst 1, 1) := by decide +kernel
theorem dX7_readLake_167 : decode cX7_readLake 167 = .ok (.iadd, 1) := by decide +kernel
theorem dX7_readLake_168 : decode cX7_readLake 168 = .ok (.putfield 103, 3) := by decide +kernel
theorem dX7_readLake_171 : decode cX7_readLake 171 = .ok (.iconst 1, 1) := by decide +kernel
theorem dX7_readLake_172 : decode cX7_readLake 172 = .ok (.ireturn, 1) := by decide +kernel
theorem dX7_readDebt_0 : decode cX7_readDebt 0 = .ok (.aload_n 0, 1) := by decide +kernel
theorem dX7_readDebt_1 : decode cX7_readDebt 1 = .ok (.getfield 14, 3) := by decide +kernel
theorem dX7_readDebt_4 : decode cX7_readDebt 4 = .ok (.invokevirtual 94, 3) := by decide +kernel
theorem dX7_readDebt_7 : decode cX7_readDebt 7 = .ok (.pop, 1) := by decide +kernel
theorem dX7_readDebt_8 : decode cX7_readDebt 8 = .ok (.aload_n 0, 1) := by decide +kernel
theorem dX7_readDebt_9 : decode cX7_readDebt 9 = .ok (.iconst (-1), 1) := by decide +kernel
theorem dX7_readDebt_10 : decode cX7_readDebt 10 = .ok (.invokevirtual 138, 3) := by decide +kernel
theorem dX7_readDebt_13 : decode cX7_readDebt 13 = .ok (.ifCond .ne 5, 3) := by decide +kernel
theorem dX7_readDebt_16 : decode cX7_readDebt 16 = .ok (.iconst 0, 1) := by decide +kernel
theorem dX7_readDebt_17 : decode cX7_readDebt 17 = .ok (.ireturn, 1) := by decide +kernel
theorem dX7_readDebt_18 : decode cX7_readDebt 18 = .ok (.aload_n 0, 1) := by decide +kernel
theorem dX7_readDebt_19 : decode cX7_readDebt 19 = .ok (.getfield 112, 3) := by decide +kernel
theorem dX7_readDebt_22 : decode cX7_readDebt 22 = .ok (.istore_n 1, 1) := by decide +kernel
theorem dX7_readDebt_23 : decode cX7_readDebt 23 = .ok (.aload_n 0, 1) := by decide +kernel
theorem dX7_readDebt_24 : decode cX7_readDebt 24 = .ok (.iload_n 1, 1) := by decide +kernel
theorem dX7_readDebt_25 : decode cX7_readDebt 25 = .ok (.invokevirtual 138, 3) := by decide +kernel
theorem dX7_readDebt_28 : decode cX7_readDebt 28 = .ok (.ifCond .ne 5, 3) := by decide +kernel
theorem dX7_readDebt_31 : decode cX7_readDebt 31 = .ok (.iconst 0, 1) := by decide +kernel
theorem dX7_readDebt_32 : decode cX7_readDebt 32 = .ok (.ireturn, 1) := by decide +kernel
theorem dX7_readDebt_33 : decode cX7_readDebt 33 = .ok (.aload_n 0, 1) := by decide +kernel
theorem dX7_readDebt_34 : decode cX7_readDebt 34 = .ok (.getfield 112, 3) := by decide +kernel
theorem dX7_readDebt_37 : decode cX7_readDebt 37 = .ok (.istore_n 2, 1) := by decide +kernel
theorem dX7_readDebt_38 : decode cX7_readDebt 38 = .ok (.aload_n 0, 1) := by decide +kernel
theorem dX7_readDebt_39 : decode cX7_readDebt 39 = .ok (.iconst 0, 1) := by decide +kernel
theorem dX7_readDebt_40 : decode cX7_readDebt 40 = .ok (.sipush 999, 3) := by decide +kernel
theorem dX7_readDebt_43 : decode cX7_readDebt 43 = .ok (.invokevirtual 118, 3) := by decide +kernel
theorem dX7_readDebt_46 : decode cX7_readDebt 46 = .ok (.ifCond .ne 5, 3) := by decide +kernel
theorem dX7_readDebt_49 : decode cX7_readDebt 49 = .ok (.iconst 0, 1) := by decide +kernel
theorem dX7_readDebt_50 : decode cX7_readDebt 50 = .ok (.ireturn, 1) := by decide +kernel
theorem dX7_readDebt_51 : decode cX7_readDebt 51 = .ok (.aload_n 0, 1) := by decide +kernel
theorem dX7_readDebt_52 : decode cX7_readDebt 52 = .ok (.getfield 29, 3) := by decide +kernel
theorem dX7_readDebt_55 : decode cX7_readDebt 55 = .ok (.getfield 153, 3) := by decide +kernel
theorem dX7_readDebt_58 : decode cX7_readDebt 58 = .ok (.iload_n 1, 1) := by decide +kernel
theorem dX7_readDebt_59 : decode cX7_readDebt 59 = .ok (.bipush 6, 2) := by decide +kernel
theorem dX7_readDebt_61 : decode cX7_readDebt 61 = .ok (.imul, 1) := by decide +kernel
theorem dX7_readDebt_62 : decode cX7_readDebt 62 = .ok (.iload_n 2, 1) := by decide +kernel
theorem dX7_readDebt_63 : decode cX7_readDebt 63 = .ok (.iadd, 1) := by decide +kernel
theorem dX7_readDebt_64 : decode cX7_readDebt 64 = .ok (.aload_n 0, 1) := by decide +kernel
theorem dX7_readDebt_65 : decode cX7_readDebt 65 = .ok (.getfield 112, 3) := by decide +kernel
theorem dX7_readDebt_68 : decode cX7_readDebt 68 = .ok (.iastore, 1) := by decide +kernel
theorem dX7_readDebt_69 : decode cX7_readDebt 69 = .ok (.iconst 1, 1) := by decide +kernel
theorem dX7_readDebt_70 : decode cX7_readDebt 70 = .ok (.ireturn, 1) := by decide +kernel
theorem dX7_readDrought_0 : decode cX7_readDrought 0 = .ok (.aload_n 0, 1) := by decide +kernel
theorem dX7_readDrought_1 : decode cX7_readDrought 1 = .ok (.getfield 14, 3) := by decide +kernel
theorem dX7_readDrought_4 : decode cX7_readDrought 4 = .ok (.invokevirtual 94, 3) := by decide +kernel
theorem dX7_readDrought_7 : decode cX7_readDrought 7 = .ok (.pop, 1) := by decide +kernel
theorem dX7_readDrought_8 : decode cX7_readDrought 8 = .ok (.aload_n 0, 1) := by decide +kernel
theorem dX7_readDrought_9 : decode cX7_readDrought 9 = .ok (.iconst 0, 1) := by decide +kernel
theorem dX7_readDrought_10 : decode cX7_readDrought 10 = .ok (.bipush 100, 2) := by decide +kernel
theorem dX7_readDrought_12 : decode cX7_readDrought 12 = .ok (.invokevirtual 118, 3) := by decide +kernel
theorem dX7_readDrought_15 : decode cX7_readDrought 15 = .ok (.ifCond .ne 5, 3) := by decide +kernel
theorem dX7_readDrought_18 : decode cX7_readDrought 18 = .ok (.iconst 0, 1) := by decide +kernel
theorem dX7_readDrought_19 : decode cX7_readDrought 19 = .ok (.ireturn, 1) := by decide +kernel
theorem dX7_readDrought_20 : decode cX7_readDrought 20 = .ok (.aload_n 0, 1) := by decide +kernel
theorem dX7_readDrought_21 : decode cX7_readDrought 21 = .ok (.getfield 29, 3) := by decide +kernel
theorem dX7_readDrought_24 : decode cX7_readDrought 24 = .ok (.aload_n 0, 1) := by decide +kernel
theorem dX7_readDrought_25 : decode cX7_readDrought 25 = .ok (.getfield 112, 3) := by decide +kernel
theorem dX7_readDrought_28 : decode cX7_readDrought 28 = .ok (.putfield 156, 3) := by decide +kernel
theorem dX7_readDrought_31 : decode cX7_readDrought 31 = .ok (.iconst 1, 1) := by decide +kernel
theorem dX7_readDrought_32 : decode cX7_readDrought 32 = .ok (.ireturn, 1) := by decide +kernel
theorem dX7_readCarts_0 : decode cX7_readCarts 0 = .ok (.aload_n 0, 1) := by decide +kernel
theorem dX7_readCarts_1 : decode cX7_readCarts 1 = .ok (.getfield 14, 3) := by decide +kernel
theorem dX7_readCarts_4 : decode cX7_readCarts 4 = .ok (.invokevirtual 94, 3) := by decide +kernel
theorem dX7_readCarts_7 : decode cX7_readCarts 7 = .ok (.pop, 1) := by decide +kernel
theorem dX7_readCarts_8 : decode cX7_readCarts 8 = .ok (.aload_n 0, 1) := by decide +kernel
theorem dX7_readCarts_9 : decode cX7_readCarts 9 = .ok (.iconst 1, 1) := by decide +kernel
theorem dX7_readCarts_10 : decode cX7_readCarts 10 = .ok (.sipush 999, 3) := by decide +kernel
theorem dX7_readCarts_13 : decode cX7_readCarts 13 = .ok (.invokevirtual 118, 3) := by decide +kernel
theorem dX7_readCarts_16 : decode cX7_readCarts 16 = .ok (.ifCond .ne 5, 3) := by decide +kernel
theorem dX7_readCarts_19 : decode cX7_readCarts 19 = .ok (.iconst 0, 1) := by decide +kernel
theorem dX7_readCarts_20 : decode cX7_readCarts 20 = .ok (.ireturn, 1) := by decide +kernel
theorem dX7_readCarts_21 : decode cX7_readCarts 21 = .ok (.aload_n 0, 1) := by decide +kernel
theorem dX7_readCarts_22 : decode cX7_readCarts 22 = .ok (.getfield 29, 3) := by decide +kernel
theorem dX7_readCarts_25 : decode cX7_readCarts 25 = .ok (.aload_n 0, 1) := by decide +kernel
theorem dX7_readCarts_26 : decode cX7_readCarts 26 = .ok (.getfield 112, 3) := by decide +kernel
theorem dX7_readCarts_29 : decode cX7_readCarts 29 = .ok (.putfield 159, 3) := by decide +kernel
theorem dX7_readCarts_32 : decode cX7_readCarts 32 = .ok (.iconst 1, 1) := by decide +kernel
theorem dX7_readCarts_33 : decode cX7_readCarts 33 = .ok (.ireturn, 1) := by decide +kernel
theorem dX7_takeWord_0 : decode cX7_takeWord 0 = .ok (.aload_n 0, 1) := by decide +kernel
theorem dX7_takeWord_1 : decode cX7_takeWord 1 = .ok (.getfield 14, 3) := by decide +kernel
theorem dX7_takeWord_4 : decode cX7_takeWord 4 = .ok (.iload_n 1, 1) := by decide +kernel
theorem dX7_takeWord_5 : decode cX7_takeWord 5 = .ok (.invokevirtual 162, 3) := by decide +kernel
theorem dX7_takeWord_8 : decode cX7_takeWord 8 = .ok (.ifCond .eq 17, 3) := by decide +kernel
theorem dX7_takeWord_11 : decode cX7_takeWord 11 = .ok (.aload_n 0, 1) := by decide +kernel
theorem dX7_takeWord_12 : decode cX7_takeWord 12 = .ok (.getfield 14, 3) := by decide +kernel
theorem dX7_takeWord_15 : decode cX7_takeWord 15 = .ok (.invokevirtual 94, 3) := by decide +kernel
theorem dX7_takeWord_18 : decode cX7_takeWord 18 = .ok (.ifCond .eq 7, 3) := by decide +kernel
theorem dX7_takeWord_21 : decode cX7_takeWord 21 = .ok (.iconst 1, 1) := by decide +kernel
theorem dX7_takeWord_22 : decode cX7_takeWord 22 = .ok (.goto 4, 3) := by decide +kernel
theorem dX7_takeWord_25 : decode cX7_takeWord 25 = .ok (.iconst 0, 1) := by decide +kernel
theorem dX7_takeWord_26 : decode cX7_takeWord 26 = .ok (.ireturn, 1) := by decide +kernel
theorem dX7_takeNumber_0 : decode cX7_takeNumber 0 = .ok (.aload_n 0, 1) := by decide +kernel
theorem dX7_takeNumber_1 : decode cX7_takeNumber 1 = .ok (.getfield 14, 3) := by decide +kernel
theorem dX7_takeNumber_4 : decode cX7_takeNumber 4 = .ok (.iconst 3, 1) := by decide +kernel
theorem dX7_takeNumber_5 : decode cX7_takeNumber 5 = .ok (.invokevirtual 57, 3) := by decide +kernel
theorem dX7_takeNumber_8 : decode cX7_takeNumber 8 = .ok (.ifCond .ne 5, 3) := by decide +kernel
theorem dX7_takeNumber_11 : decode cX7_takeNumber 11 = .ok (.iconst 0, 1) := by decide +kernel
theorem dX7_takeNumber_12 : decode cX7_takeNumber 12 = .ok (.ireturn, 1) := by decide +kernel
theorem dX7_takeNumber_13 : decode cX7_takeNumber 13 = .ok (.aload_n 0, 1) := by decide +kernel
theorem dX7_takeNumber_14 : decode cX7_takeNumber 14 = .ok (.aload_n 0, 1) := by decide +kernel
theorem dX7_takeNumber_15 : decode cX7_takeNumber 15 = .ok (.getfield 14, 3) := by decide +kernel
theorem dX7_takeNumber_18 : decode cX7_takeNumber 18 = .ok (.getfield 60, 3) := by decide +kernel
theorem dX7_takeNumber_21 : decode cX7_takeNumber 21 = .ok (.putfield 112, 3) := by decide +kernel
theorem dX7_takeNumber_24 : decode cX7_takeNumber 24 = .ok (.aload_n 0, 1) := by decide +kernel
theorem dX7_takeNumber_25 : decode cX7_takeNumber 25 = .ok (.getfield 112, 3) := by decide +kernel
theorem dX7_takeNumber_28 : decode cX7_takeNumber 28 = .ok (.iload_n 1, 1) := by decide +kernel
theorem dX7_takeNumber_29 : decode cX7_takeNumber 29 = .ok (.if_icmp .lt 11, 3) := by decide +kernel
theorem dX7_takeNumber_32 : decode cX7_takeNumber 32 = .ok (.aload_n 0, 1) := by decide +kernel
theorem dX7_takeNumber_33 : decode cX7_takeNumber 33 = .ok (.getfield 112, 3) := by decide +kernel
theorem dX7_takeNumber_36 : decode cX7_takeNumber 36 = .ok (.iload_n 2, 1) := by decide +kernel
theorem dX7_takeNumber_37 : decode cX7_takeNumber 37 = .ok (.if_icmp .le 12, 3) := by decide +kernel
theorem dX7_takeNumber_40 : decode cX7_takeNumber 40 = .ok (.aload_n 0, 1) := by decide +kernel
theorem dX7_takeNumber_41 : decode cX7_takeNumber 41 = .ok (.getfield 14, 3) := by decide +kernel
theorem dX7_takeNumber_44 : decode cX7_takeNumber 44 = .ok (.iconst 4, 1) := by decide +kernel
theorem dX7_takeNumber_45 : decode cX7_takeNumber 45 = .ok (.invokevirtual 53, 3) := by decide +kernel
theorem dX7_takeNumber_48 : decode cX7_takeNumber 48 = .ok (.ireturn, 1) := by decide +kernel
theorem dX7_takeNumber_49 : decode cX7_takeNumber 49 = .ok (.aload_n 0, 1) := by decide +kernel
theorem dX7_takeNumber_50 : decode cX7_takeNumber 50 = .ok (.getfield 14, 3) := by decide +kernel
theorem dX7_takeNumber_53 : decode cX7_takeNumber 53 = .ok (.invokevirtual 94, 3) := by decide +kernel
theorem dX7_takeNumber_56 : decode cX7_takeNumber 56 = .ok (.ireturn, 1) := by decide +kernel
theorem dX7_takeNewName_0 : decode cX7_takeNewName 0 = .ok (.aload_n 0, 1) := by decide +kernel
theorem dX7_takeNewName_1 : decode cX7_takeNewName 1 = .ok (.getfield 14, 3) := by decide +kernel
theorem dX7_takeNewName_4 : decode cX7_takeNewName 4 = .ok (.iconst 1, 1) := by decide +kernel
theorem dX7_takeNewName_5 : decode cX7_takeNewName 5 = .ok (.invokevirtual 57, 3) := by decide +kernel
theorem dX7_takeNewName_8 : decode cX7_takeNewName 8 = .ok (.ifCond .ne 5, 3) := by decide +kernel
theorem dX7_takeNewName_11 : decode cX7_takeNewName 11 = .ok (.iconst 0, 1) := by decide +kernel
theorem dX7_takeNewName_12 : decode cX7_takeNewName 12 = .ok (.ireturn, 1) := by decide +kernel
theorem dX7_takeNewName_13 : decode cX7_takeNewName 13 = .ok (.aload_n 0, 1) := by decide +kernel
theorem dX7_takeNewName_14 : decode cX7_takeNewName 14 = .ok (.aload_n 0, 1) := by decide +kernel
theorem dX7_takeNewName_15 : decode cX7_takeNewName 15 = .ok (.getfield 14, 3) := by decide +kernel
theorem dX7_takeNewName_18 : decode cX7_takeNewName 18 = .ok (.getfield 60, 3) := by decide +kernel
theorem dX7_takeNewName_21 : decode cX7_takeNewName 21 = .ok (.putfield 112, 3) := by decide +kernel
theorem dX7_takeNewName_24 : decode cX7_takeNewName 24 = .ok (.aload_n 0, 1) := by decide +kernel
theorem dX7_takeNewName_25 : decode cX7_takeNewName 25 = .ok (.getfield 29, 3) := by decide +kernel
theorem dX7_takeNewName_28 : decode cX7_takeNewName 28 = .ok (.aload_n 0, 1) := by decide +kernel
theorem dX7_takeNewName_29 : decode cX7_takeNewName 29 = .ok (.getfield 112, 3) := by decide +kernel
theorem dX7_takeNewName_32 : decode cX7_takeNewName 32 = .ok (.invokevirtual 165, 3) := by decide +kernel
theorem dX7_takeNewName_35 : decode cX7_takeNewName 35 = .ok (.ifCond .eq 12, 3) := by decide +kernel
theorem dX7_takeNewName_38 : decode cX7_takeNewName 38 = .ok (.aload_n 0, 1) := by decide +kernel
theorem dX7_takeNewName_39 : decode cX7_takeNewName 39 = .ok (.getfield 14, 3) := by decide +kernel
theorem dX7_takeNewName_42 : decode cX7_takeNewName 42 = .ok (.iconst 2, 1) := by decide +kernel
theorem dX7_takeNewName_43 : decode cX7_takeNewName 43 = .ok (.invokevirtual 53, 3) := by decide +kernel
theorem dX7_takeNewName_46 : decode cX7_takeNewName 46 = .ok (.ireturn, 1) := by decide +kernel
theorem dX7_takeNewName_47 : decode cX7_takeNewName 47 = .ok (.aload_n 0, 1) := by decide +kernel
theorem dX7_takeNewName_48 : decode cX7_takeNewName 48 = .ok (.getfield 14, 3) := by decide +kernel
theorem dX7_takeNewName_51 : decode cX7_takeNewName 51 = .ok (.invokevirtual 94, 3) := by decide +kernel
theorem dX7_takeNewName_54 : decode cX7_takeNewName 54 = .ok (.ireturn, 1) := by decide +kernel
theorem dX7_takeHollowWithRoom_0 : decode cX7_takeHollowWithRoom 0 = .ok (.aload_n 0, 1) := by decide +kernel
theorem dX7_takeHollowWithRoom_1 : decode cX7_takeHollowWithRoom 1 = .ok (.getfield 14, 3) := by decide +kernel
theorem dX7_takeHollowWithRoom_4 : decode cX7_takeHollowWithRoom 4 = .ok (.iconst 1, 1) := by decide +kernel
theorem dX7_takeHollowWithRoom_5 : decode cX7_takeHollowWithRoom 5 = .ok (.invokevirtual 57, 3) := by decide +kernel
theorem dX7_takeHollowWithRoom_8 : decode cX7_takeHollowWithRoom 8 = .ok (.ifCond .ne 5, 3) := by decide +kernel
theorem dX7_takeHollowWithRoom_11 : decode cX7_takeHollowWithRoom 11 = .ok (.iconst 0, 1) := by decide +kernel
theorem dX7_takeHollowWithRoom_12 : decode cX7_takeHollowWithRoom 12 = .ok (.ireturn, 1) := by decide +kernel
theorem dX7_takeHollowWithRoom_13 : decode cX7_takeHollowWithRoom 13 = .ok (.aload_n 0, 1) := by decide +kernel
theorem dX7_takeHollowWithRoom_14 : decode cX7_takeHollowWithRoom 14 = .ok (.aload_n 0, 1) := by decide +kernel
theorem dX7_takeHollowWithRoom_15 : decode cX7_takeHollowWithRoom 15 = .ok (.getfield 29, 3) := by decide +kernel
theorem dX7_takeHollowWithRoom_18 : decode cX7_takeHollowWithRoom 18 = .ok (.aload_n 0, 1) := by decide +kernel
theorem dX7_takeHollowWithRoom_19 : decode cX7_takeHollowWithRoom 19 = .ok (.getfield 14, 3) := by decide +kernel
theorem dX7_takeHollowWithRoom_22 : decode cX7_takeHollowWithRoom 22 = .ok (.getfield 60, 3) := by decide +kernel
theorem dX7_takeHollowWithRoom_25 : decode cX7_takeHollowWithRoom 25 = .ok (.invokevirtual 168, 3) := by decide +kernel
theorem dX7_takeHollowWithRoom_28 : decode cX7_takeHollowWithRoom 28 = .ok (.putfield 112, 3) := by decide +kernel
theorem dX7_takeHollowWithRoom_31 : decode cX7_takeHollowWithRoom 31 = .ok (.aload_n 0, 1) := by decide +kernel
theorem dX7_takeHollowWithRoom_32 : decode cX7_takeHollowWithRoom 32 = .ok (.getfield 112, 3) := by decide +kernel
theorem dX7_takeHollowWithRoom_35 : decode cX7_takeHollowWithRoom 35 = .ok (.iconst (-1), 1) := by decide +kernel
theorem dX7_takeHollowWithRoom_36 : decode cX7_takeHollowWithRoom 36 = .ok (.if_icmp .eq 18, 3) := by decide +kernel
theorem dX7_takeHollowWithRoom_39 : decode cX7_takeHollowWithRoom 39 = .ok (.aload_n 0, 1) := by decide +kernel
theorem dX7_takeHollowWithRoom_40 : decode cX7_takeHollowWithRoom 40 = .ok (.getfield 29, 3) := by decide +kernel
theorem dX7_takeHollowWithRoom_43 : decode cX7_takeHollowWithRoom 43 = .ok (.aload_n 0, 1) := by decide +kernel
theorem dX7_takeHollowWithRoom_44 : decode cX7_takeHollowWithRoom 44 = .ok (.getfield 112, 3) := by decide +kernel
theorem dX7_takeHollowWithRoom_47 : decode cX7_takeHollowWithRoom 47 = .ok (.invokevirtual 172, 3) := by decide +kernel
theorem dX7_takeHollowWithRoom_50 : decode cX7_takeHollowWithRoom 50 = .ok (.iload_n 1, 1) := by decide +kernel
theorem dX7_takeHollowWithRoom_51 : decode cX7_takeHollowWithRoom 51 = .ok (.if_icmp .ge 12, 3) := by decide +kernel
theorem dX7_takeHollowWithRoom_54 : decode cX7_takeHollowWithRoom 54 = .ok (.aload_n 0, 1) := by decide +kernel
theorem dX7_takeHollowWithRoom_55 : decode cX7_takeHollowWithRoom 55 = .ok (.getfield 14, 3) := by decide +kernel
theorem dX7_takeHollowWithRoom_58 : decode cX7_takeHollowWithRoom 58 = .ok (.iconst 3, 1) := by decide +kernel
theorem dX7_takeHollowWithRoom_59 : decode cX7_takeHollowWithRoom 59 = .ok (.invokevirtual 53, 3) := by decide +kernel
theorem dX7_takeHollowWithRoom_62 : decode cX7_takeHollowWithRoom 62 = .ok (.ireturn, 1) := by decide +kernel
theorem dX7_takeHollowWithRoom_63 : decode cX7_takeHollowWithRoom 63 = .ok (.aload_n 0, 1) := by decide +kernel
theorem dX7_takeHollowWithRoom_64 : decode cX7_takeHollowWithRoom 64 = .ok (.getfield 14, 3) := by decide +kernel
theorem dX7_takeHollowWithRoom_67 : decode cX7_takeHollowWithRoom 67 = .ok (.invokevirtual 94, 3) := by decide +kernel
theorem dX7_takeHollowWithRoom_70 : decode cX7_takeHollowWithRoom 70 = .ok (.ireturn, 1) := by decide +kernel
theorem dX7_takeOwnerBut_0 : decode cX7_takeOwnerBut 0 = .ok (.aload_n 0, 1) := by decide +kernel
theorem dX7_takeOwnerBut_1 : decode cX7_takeOwnerBut 1 = .ok (.getfield 14, 3) := by decide +kernel
theorem dX7_takeOwnerBut_4 : decode cX7_takeOwnerBut 4 = .ok (.iconst 1, 1) := by decide +kernel
theorem dX7_takeOwnerBut_5 : decode cX7_takeOwnerBut 5 = .ok (.invokevirtual 57, 3) := by decide +kernel
theorem dX7_takeOwnerBut_8 : decode cX7_takeOwnerBut 8 = .ok (.ifCond .ne 5, 3) := by decide +kernel
theorem dX7_takeOwnerBut_11 : decode cX7_takeOwnerBut 11 = .ok (.iconst 0, 1) := by decide +kernel
theorem dX7_takeOwnerBut_12 : decode cX7_takeOwnerBut 12 = .ok (.ireturn, 1) := by decide +kernel
theorem dX7_takeOwnerBut_13 : decode cX7_takeOwnerBut 13 = .ok (.aload_n 0, 1) := by decide +kernel
theorem dX7_takeOwnerBut_14 : decode cX7_takeOwnerBut 14 = .ok (.aload_n 0, 1) := by decide +kernel
theorem dX7_takeOwnerBut_15 : decode cX7_takeOwnerBut 15 = .ok (.getfield 29, 3) := by decide +kernel
theorem dX7_takeOwnerBut_18 : decode cX7_takeOwnerBut 18 = .ok (.aload_n 0, 1) := by decide +kernel
theorem dX7_takeOwnerBut_19 : decode cX7_takeOwnerBut 19 = .ok (.getfield 14, 3) := by decide +kernel
theorem dX7_takeOwnerBut_22 : decode cX7_takeOwnerBut 22 = .ok (.getfield 60, 3) := by decide +kernel
theorem dX7_takeOwnerBut_25 : decode cX7_takeOwnerBut 25 = .ok (.invokevirtual 175, 3) := by decide +kernel
theorem dX7_takeOwnerBut_28 : decode cX7_takeOwnerBut 28 = .ok (.putfield 112, 3) := by decide +kernel
theorem dX7_takeOwnerBut_31 : decode cX7_takeOwnerBut 31 = .ok (.aload_n 0, 1) := by decide +kernel
theorem dX7_takeOwnerBut_32 : decode cX7_takeOwnerBut 32 = .ok (.getfield 112, 3) := by decide +kernel
theorem dX7_takeOwnerBut_35 : decode cX7_takeOwnerBut 35 = .ok (.iconst (-1), 1) := by decide +kernel
theorem dX7_takeOwnerBut_36 : decode cX7_takeOwnerBut 36 = .ok (.if_icmp .eq 11, 3) := by decide +kernel
theorem dX7_takeOwnerBut_39 : decode cX7_takeOwnerBut 39 = .ok (.aload_n 0, 1) := by decide +kernel
theorem dX7_takeOwnerBut_40 : decode cX7_takeOwnerBut 40 = .ok (.getfield 112, 3) := by decide +kernel
theorem dX7_takeOwnerBut_43 : decode cX7_takeOwnerBut 43 = .ok (.iload_n 1, 1) := by decide +kernel
theorem dX7_takeOwnerBut_44 : decode cX7_takeOwnerBut 44 = .ok (.if_icmp .ne 12, 3) := by decide +kernel
theorem dX7_takeOwnerBut_47 : decode cX7_takeOwnerBut 47 = .ok (.aload_n 0, 1) := by decide +kernel
theorem dX7_takeOwnerBut_48 : decode cX7_takeOwnerBut 48 = .ok (.getfield 14, 3) := by decide +kernel
theorem dX7_takeOwnerBut_51 : decode cX7_takeOwnerBut 51 = .ok (.iconst 3, 1) := by decide +kernel
theorem dX7_takeOwnerBut_52 : decode cX7_takeOwnerBut 52 = .ok (.invokevirtual 53, 3) := by decide +kernel
theorem dX7_takeOwnerBut_55 : decode cX7_takeOwnerBut 55 = .ok (.ireturn, 1) := by decide +kernel
theorem dX7_takeOwnerBut_56 : decode cX7_takeOwnerBut 56 = .ok (.aload_n 0, 1) := by decide +kernel
theorem dX7_takeOwnerBut_57 : decode cX7_takeOwnerBut 57 = .ok (.getfield 14, 3) := by decide +kernel
theorem dX7_takeOwnerBut_60 : decode cX7_takeOwnerBut 60 = .ok (.invokevirtual 94, 3) := by decide +kernel
theorem dX7_takeOwnerBut_63 : decode cX7_takeOwnerBut 63 = .ok (.ireturn, 1) := by decide +kernel
theorem dX8_init_0 : decode cX8_init 0 = .ok (.aload_n 0, 1) := by decide +kernel
theorem dX8_init_1 : decode cX8_init 1 = .ok (.invokespecial 3, 3) := by decide +kernel
theorem dX8_init_4 : decode cX8_init 4 = .ok (.aload_n 0, 1) := by decide +kernel
theorem dX8_init_5 : decode cX8_init 5 = .ok (.aload_n 1, 1) := by decide +kernel
theorem dX8_init_6 : decode cX8_init 6 = .ok (.putfield 9, 3) := by decide +kernel
theorem dX8_init_9 : decode cX8_init 9 = .ok (.return_, 1) := by decide +kernel
theorem dX8_readRule_0 : decode cX8_readRule 0 = .ok (.aload_n 0, 1) := by decide +kernel
theorem dX8_readRule_1 : decode cX8_readRule 1 = .ok (.iload_n 1, 1) := by decide +kernel
theorem dX8_readRule_2 : decode cX8_readRule 2 = .ok (.putfield 15, 3) := by decide +kernel
theorem dX8_readRule_5 : decode cX8_readRule 5 = .ok (.aload_n 0, 1) := by decide +kernel
theorem dX8_readRule_6 : decode cX8_readRule 6 = .ok (.aload_n 2, 1) := by decide +kernel
theorem dX8_readRule_7 : decode cX8_readRule 7 = .ok (.putfield 19, 3) := by decide +kernel
theorem dX8_readRule_10 : decode cX8_readRule 10 = .ok (.aload_n 0, 1) := by decide +kernel
theorem dX8_readRule_11 : decode cX8_readRule 11 = .ok (.getfield 19, 3) := by decide +kernel
theorem dX8_readRule_14 : decode cX8_readRule 14 = .ok (.getfield 23, 3) := by decide +kernel
theorem dX8_readRule_17 : decode cX8_readRule 17 = .ok (.istore_n 3, 1) := by decide +kernel
theorem dX8_readRule_18 : decode cX8_readRule 18 = .ok (.aload_n 0, 1) := by decide +kernel
theorem dX8_readRule_19 : decode cX8_readRule 19 = .ok (.getfield 9, 3) := by decide +kernel
theorem dX8_readRule_22 : decode cX8_readRule 22 = .ok (.invokevirtual 28, 3) := by decide +kernel
theorem dX8_readRule_25 : decode cX8_readRule 25 = .ok (.pop, 1) := by decide +kernel
theorem dX8_readRule_26 : decode cX8_readRule 26 = .ok (.aload_n 0, 1) := by decide +kernel
theorem dX8_readRule_27 : decode cX8_readRule 27 = .ok (.getfield 15, 3) := by decide +kernel
theorem dX8_readRule_30 : decode cX8_readRule 30 = .ok (.iconst 2, 1) := by decide +kernel
theorem dX8_readRule_31 : decode cX8_readRule 31 = .ok (.if_icmp .ne 14, 3) := by decide +kernel
theorem dX8_readRule_34 : decode cX8_readRule 34 = .ok (.aload_n 0, 1) := by decide +kernel
theorem dX8_readRule_35 : decode cX8_readRule 35 = .ok (.iconst 0, 1) := by decide +kernel
theorem dX8_readRule_36 : decode cX8_readRule 36 = .ok (.invokevirtual 34, 3) := by decide +kernel
theorem dX8_readRule_39 : decode cX8_readRule 39 = .ok (.ifCond .eq 14, 3) := by decide +kernel
theorem dX8_readRule_42 : decode cX8_readRule 42 = .ok (.goto 13, 3) := by decide +kernel
theorem dX8_readRule_45 : decode cX8_readRule 45 = .ok (.aload_n 0, 1) := by decide +kernel
theorem dX8_readRule_46 : decode cX8_readRule 46 = .ok (.iconst 0, 1) := by decide +kernel
theorem dX8_readRule_47 : decode cX8_readRule 47 = .ok (.invokevirtual 38, 3) := by decide +kernel
theorem dX8_readRule_50 : decode cX8_readRule 50 = .ok (.ifCond .ne 5, 3) := by decide +kernel
theorem dX8_readRule_53 : decode cX8_readRule 53 = .ok (.iconst 0, 1) := by decide +kernel
theorem dX8_readRule_54 : decode cX8_readRule 54 = .ok (.ireturn, 1) := by decide +kernel
theorem dX8_readRule_55 : decode cX8_readRule 55 = .ok (.aload_n 0, 1) := by decide +kernel
theorem dX8_readRule_56 : decode cX8_readRule 56 = .ok (.getfield 19, 3) := by decide +kernel
theorem dX8_readRule_59 : decode cX8_readRule 59 = .ok (.getfield 41, 3) := by decide +kernel
theorem dX8_readRule_62 : decode cX8_readRule 62 = .ok (.aload_n 0, 1) := by decide +kernel
theorem dX8_readRule_63 : decode cX8_readRule 63 = .ok (.getfield 15, 3) := by decide +kernel
theorem dX8_readRule_66 : decode cX8_readRule 66 = .ok (.iload_n 3, 1) := by decide +kernel
theorem dX8_readRule_67 : decode cX8_readRule 67 = .ok (.iastore, 1) := by decide +kernel
theorem dX8_readRule_68 : decode cX8_readRule 68 = .ok (.aload_n 0, 1) := by decide +kernel
theorem dX8_readRule_69 : decode cX8_readRule 69 = .ok (.getfield 19, 3) := by decide +kernel
theorem dX8_readRule_72 : decode cX8_readRule 72 = .ok (.getfield 45, 3) := by decide +kernel
theorem dX8_readRule_75 : decode cX8_readRule 75 = .ok (.aload_n 0, 1) := by decide +kernel
theorem dX8_readRule_76 : decode cX8_readRule 76 = .ok (.getfield 15, 3) := by decide +kernel
theorem dX8_readRule_79 : decode cX8_readRule 79 = .ok (.aload_n 0, 1) := by decide +kernel
theorem dX8_readRule_80 : decode cX8_readRule 80 = .ok (.getfield 19, 3) := by decide +kernel
theorem dX8_readRule_83 : decode cX8_readRule 83 = .ok (.getfield 23, 3) := by decide +kernel
theorem dX8_readRule_86 : decode cX8_readRule 86 = .ok (.iastore, 1) := by decide +kernel
theorem dX8_readRule_87 : decode cX8_readRule 87 = .ok (.iconst 1, 1) := by decide +kernel
theorem dX8_readRule_88 : decode cX8_readRule 88 = .ok (.ireturn, 1) := by decide +kernel
theorem dX8_mayOpen_0 : decode cX8_mayOpen 0 = .ok (.iload_n 1, 1) := by decide +kernel
theorem dX8_mayOpen_1 : decode cX8_mayOpen 1 = .ok (.bipush 7, 2) := by decide +kernel
theorem dX8_mayOpen_3 : decode cX8_mayOpen 3 = .ok (.if_icmp .lt 14, 3) := by decide +kernel
theorem dX8_mayOpen_6 : decode cX8_mayOpen 6 = .ok (.aload_n 0, 1) := by decide +kernel
theorem dX8_mayOpen_7 : decode cX8_mayOpen 7 = .ok (.getfield 9, 3) := by decide +kernel
theorem dX8_mayOpen_10 : decode cX8_mayOpen 10 = .ok (.iconst 5, 1) := by decide +kernel
theorem dX8_mayOpen_11 : decode cX8_mayOpen 11 = .ok (.invokevirtual 48, 3) := by decide +kernel
theorem dX8_mayOpen_14 : decode cX8_mayOpen 14 = .ok (.ifCond .eq 7, 3) := by decide +kernel
theorem dX8_mayOpen_17 : decode cX8_mayOpen 17 = .ok (.iconst 1, 1) := by decide +kernel
theorem dX8_mayOpen_18 : decode cX8_mayOpen 18 = .ok (.goto 4, 3) := by decide +kernel
theorem dX8_mayOpen_21 : decode cX8_mayOpen 21 = .ok (.iconst 0, 1) := by decide +kernel
theorem dX8_mayOpen_22 : decode cX8_mayOpen 22 = .ok (.ireturn, 1) := by decide +kernel
theorem dX8_readTest_0 : decode cX8_readTest 0 = .ok (.aload_n 0, 1) := by decide +kernel
theorem dX8_readTest_1 : decode cX8_readTest 1 = .ok (.iload_n 1, 1) := by decide +kernel
theorem dX8_readTest_2 : decode cX8_readTest 2 = .ok (.invokevirtual 51, 3) := by decide +kernel
theorem dX8_readTest_5 : decode cX8_readTest 5 = .ok (.istore_n 2, 1) := by decide +kernel
theorem dX8_readTest_6 : decode cX8_readTest 6 = .ok (.iconst 0, 1) := by decide +kernel
theorem dX8_readTest_7 : decode cX8_readTest 7 = .ok (.istore_n 3, 1) := by decide +kernel
theorem dX8_readTest_8 : decode cX8_readTest 8 = .ok (.iload_n 3, 1) := by decide +kernel
theorem dX8_readTest_9 : decode cX8_readTest 9 = .ok (.sipush 1600, 3) := by decide +kernel
theorem dX8_readTest_12 : decode cX8_readTest 12 = .ok (.if_icmp .ge 59, 3) := by decide +kernel
theorem dX8_readTest_15 : decode cX8_readTest 15 = .ok (.iload_n 2, 1) := by decide +kernel
theorem dX8_readTest_16 : decode cX8_readTest 16 = .ok (.ifCond .eq 55, 3) := by decide +kernel
theorem dX8_readTest_19 : decode cX8_readTest 19 = .ok (.aload_n 0, 1) := by decide +kernel
theorem dX8_readTest_20 : decode cX8_readTest 20 = .ok (.getfield 9, 3) := by decide +kernel
theorem dX8_readTest_23 : decode cX8_readTest 23 = .ok (.bipush 18, 2) := by decide +kernel
theorem dX8_readTest_25 : decode cX8_readTest 25 = .ok (.invokevirtual 54, 3) := by decide +kernel
theorem dX8_readTest_28 : decode cX8_readTest 28 = .ok (.ifCond .eq 43, 3) := by decide +kernel
theorem dX8_readTest_31 : decode cX8_readTest 31 = .ok (.aload_n 0, 1) := by decide +kernel
theorem dX8_readTest_32 : decode cX8_readTest 32 = .ok (.getfield 9, 3) := by decide +kernel
theorem dX8_readTest_35 : decode cX8_readTest 35 = .ok (.invokevirtual 28, 3) := by decide +kernel
theorem dX8_readTest_38 : decode cX8_readTest 38 = .ok (.pop, 1) := by decide +kernel
theorem dX8_readTest_39 : decode cX8_readTest 39 = .ok (.aload_n 0, 1) := by decide +kernel
theorem dX8_readTest_40 : decode cX8_readTest 40 = .ok (.iload_n 1, 1) := by decide +kernel
theorem dX8_readTest_41 : decode cX8_readTest 41 = .ok (.invokevirtual 51, 3) := by decide +kernel
theorem dX8_readTest_44 : decode cX8_readTest 44 = .ok (.ifCond .eq 19, 3) := by decide +kernel
theorem dX8_readTest_47 : decode cX8_readTest 47 = .ok (.aload_n 0, 1) := by decide +kernel
theorem dX8_readTest_48 : decode cX8_readTest 48 = .ok (.getfield 19, 3) := by decide +kernel
theorem dX8_readTest_51 : decode cX8_readTest 51 = .ok (.bipush (-20), 2) := by decide +kernel
theorem dX8_readTest_53 : decode cX8_readTest 53 = .ok (.invokevirtual 57, 3) := by decide +kernel
theorem dX8_readTest_56 : decode cX8_readTest 56 = .ok (.ifCond .eq 7, 3) := by decide +kernel
theorem dX8_readTest_59 : decode cX8_readTest 59 = .ok (.iconst 1, 1) := by decide +kernel
theorem dX8_readTest_60 : decode cX8_readTest 60 = .ok (.goto 4, 3) := by decide +kernel
theorem dX8_readTest_63 : decode cX8_readTest 63 = .ok (.iconst 0, 1) := by decide +kernel
theorem dX8_readTest_64 : decode cX8_readTest 64 = .ok (.istore_n 2, 1) := by decide +kernel
theorem dX8_readTest_65 : decode cX8_readTest 65 = .ok (.iinc 3 1, 3) := by decide +kernel
theorem dX8_readTest_68 : decode cX8_readTest 68 = .ok (.goto (-60), 3) := by decide +kernel
theorem dX8_readTest_71 : decode cX8_readTest 71 = .ok (.iload_n 2, 1) := by decide +kernel
theorem dX8_readTest_72 : decode cX8_readTest 72 = .ok (.ireturn, 1) := by decide +kernel
theorem dX8_readBoth_0 : decode cX8_readBoth 0 = .ok (.aload_n 0, 1) := by decide +kernel
theorem dX8_readBoth_1 : decode cX8_readBoth 1 = .ok (.iload_n 1, 1) := by decide +kernel
theorem dX8_readBoth_2 : decode cX8_readBoth 2 = .ok (.invokevirtual 60, 3) := by decide +kernel
theorem dX8_readBoth_5 : decode cX8_readBoth 5 = .ok (.istore_n 2, 1) := by decide +kernel
theorem dX8_readBoth_6 : decode cX8_readBoth 6 = .ok (.iconst 0, 1) := by decide +kernel
theorem dX8_readBoth_7 : decode cX8_readBoth 7 = .ok (.istore_n 3, 1) := by decide +kernel
theorem dX8_readBoth_8 : decode cX8_readBoth 8 = .ok (.iload_n 3, 1) := by decide +kernel
theorem dX8_readBoth_9 : decode cX8_readBoth 9 = .ok (.sipush 1600, 3) := by decide +kernel
theorem dX8_readBoth_12 : decode cX8_readBoth 12 = .ok (.if_icmp .ge 59, 3) := by decide +kernel
theorem dX8_readBoth_15 : decode cX8_readBoth 15 = .ok (.iload_n 2, 1) := by decide +kernel
theorem dX8_readBoth_16 : decode cX8_readBoth 16 = .ok (.ifCond .eq 55, 3) := by decide +kernel
theorem dX8_readBoth_19 : decode cX8_readBoth 19 = .ok (.aload_n 0, 1) := by decide +kernel
theorem dX8_readBoth_20 : decode cX8_readBoth 20 = .ok (.getfield 9, 3) := by decide +kernel
theorem dX8_readBoth_23 : decode cX8_readBoth 23 = .ok (.bipush 19, 2) := by decide +kernel
theorem dX8_readBoth_25 : decode cX8_readBoth 25 = .ok (.invokevirtual 54, 3) := by decide +kernel
theorem dX8_readBoth_28 : decode cX8_readBoth 28 = .ok (.ifCond .eq 43, 3) := by decide +kernel
theorem dX8_readBoth_31 : decode cX8_readBoth 31 = .ok (.aload_n 0, 1) := by decide +kernel
theorem dX8_readBoth_32 : decode cX8_readBoth 32 = .ok (.getfield 9, 3) := by decide +kernel
theorem dX8_readBoth_35 : decode cX8_readBoth 35 = .ok (.invokevirtual 28, 3) := by decide +kernel
theorem dX8_readBoth_38 : decode cX8_readBoth 38 = .ok (.pop, 1) := by decide +kernel
theorem dX8_readBoth_39 : decode cX8_readBoth 39 = .ok (.aload_n 0, 1) := by decide +kernel
theorem dX8_readBoth_40 : decode cX8_readBoth 40 = .ok (.iload_n 1, 1) := by decide +kernel
theorem dX8_readBoth_41 : decode cX8_readBoth 41 = .ok (.invokevirtual 60, 3) := by decide +kernel
theorem dX8_readBoth_44 : decode cX8_readBoth 44 = .ok (.ifCond .eq 19, 3) := by decide +kernel
theorem dX8_readBoth_47 : decode cX8_readBoth 47 = .ok (.aload_n 0, 1) := by decide +kernel
theorem dX8_readBoth_48 : decode cX8_readBoth 48 = .ok (.getfield 19, 3) := by decide +kernel
theorem dX8_readBoth_51 : decode cX8_readBoth 51 = .ok (.bipush (-19), 2) := by decide +kernel
theorem dX8_readBoth_53 : decode cX8_readBoth 53 = .ok (.invokevirtual 57, 3) := by decide +kernel
theorem dX8_readBoth_56 : decode cX8_readBoth 56 = .ok (.ifCond .eq 7, 3) := by decide +kernel
theorem dX8_readBoth_59 : decode cX8_readBoth 59 = .ok (.iconst 1, 1) := by decide +kernel
theorem dX8_readBoth_60 : decode cX8_readBoth 60 = .ok (.goto 4, 3) := by decide +kernel
theorem dX8_readBoth_63 : decode cX8_readBoth 63 = .ok (.iconst 0, 1) := by decide +kernel
theorem dX8_readBoth_64 : decode cX8_readBoth 64 = .ok (.istore_n 2, 1) := by decide +kernel
theorem dX8_readBoth_65 : decode cX8_readBoth 65 = .ok (.iinc 3 1, 3) := by decide +kernel
theorem dX8_readBoth_68 : decode cX8_readBoth 68 = .ok (.goto (-60), 3) := by decide +kernel
theorem dX8_readBoth_71 : decode cX8_readBoth 71 = .ok (.iload_n 2, 1) := by decide +kernel
theorem dX8_readBoth_72 : decode cX8_readBoth 72 = .ok (.ireturn, 1) := by decide +kernel
theorem dX8_readFact_0 : decode cX8_readFact 0 = .ok (.aload_n 0, 1) := by decide +kernel
theorem dX8_readFact_1 : decode cX8_readFact 1 = .ok (.getfield 9, 3) := by decide +kernel
theorem dX8_readFact_4 : decode cX8_readFact 4 = .ok (.bipush 20, 2) := by decide +kernel
theorem dX8_readFact_6 : decode cX8_readFact 6 = .ok (.invokevirtual 54, 3) := by decide +kernel
theorem dX8_readFact_9 : decode cX8_readFact 9 = .ok (.ifCond .eq 49, 3) := by decide +kernel
theorem dX8_readFact_12 : decode cX8_readFact 12 = .ok (.aload_n 0, 1) := by decide +kernel
theorem dX8_readFact_13 : decode cX8_readFact 13 = .ok (.iload_n 1, 1) := by decide +kernel
theorem dX8_readFact_14 : decode cX8_readFact 14 = .ok (.invokevirtual 63, 3) := by decide +kernel
theorem dX8_readFact_17 : decode cX8_readFact 17 = .ok (.ifCond .eq 39, 3) := by decide +kernel
theorem dX8_readFact_20 : decode cX8_readFact 20 = .ok (.aload_n 0, 1) := by decide +kernel
theorem dX8_readFact_21 : decode cX8_readFact 21 = .ok (.getfield 9, 3) := by decide +kernel
theorem dX8_readFact_24 : decode cX8_readFact 24 = .ok (.invokevirtual 28, 3) := by decide +kernel
theorem dX8_readFact_27 : decode cX8_readFact 27 = .ok (.ifCond .eq 29, 3) := by decide +kernel
theorem dX8_readFact_30 : decode cX8_readFact 30 = .ok (.aload_n 0, 1) := by decide +kernel
theorem dX8_readFact_31 : decode cX8_readFact 31 = .ok (.iload_n 1, 1) := by decide +kernel
theorem dX8_readFact_32 : decode cX8_readFact 32 = .ok (.iconst 1, 1) := by decide +kernel
theorem dX8_readFact_33 : decode cX8_readFact 33 = .ok (.iadd, 1) := by decide +kernel
theorem dX8_readFact_34 : decode cX8_readFact 34 = .ok (.invokevirtual 60, 3) := by decide +kernel
theorem dX8_readFact_37 : decode cX8_readFact 37 = .ok (.ifCond .eq 19, 3) := by decide +kernel
theorem dX8_readFact_40 : decode cX8_readFact 40 = .ok (.aload_n 0, 1) := by decide +kernel
theorem dX8_readFact_41 : decode cX8_readFact 41 = .ok (.getfield 19, 3) := by decide +kernel
theorem dX8_readFact_44 : decode cX8_readFact 44 = .ok (.bipush (-7), 2) := by decide +kernel
theorem dX8_readFact_46 : decode cX8_readFact 46 = .ok (.invokevirtual 57, 3) := by decide +kernel
theorem dX8_readFact_49 : decode cX8_readFact 49 = .ok (.ifCond .eq 7, 3) := by decide +kernel
theorem dX8_readFact_52 : decode cX8_readFact 52 = .ok (.iconst 1, 1) := by decide +kernel
theorem dX8_readFact_53 : decode cX8_readFact 53 = .ok (.goto 4, 3) := by decide +kernel
theorem dX8_readFact_56 : decode cX8_readFact 56 = .ok (.iconst 0, 1) := by decide +kernel
theorem dX8_readFact_57 : decode cX8_readFact 57 = .ok (.ireturn, 1) := by decide +kernel
theorem dX8_readFact_58 : decode cX8_readFact 58 = .ok (.aload_n 0, 1) := by decide +kernel
theorem dX8_readFact_59 : decode cX8_readFact 59 = .ok (.getfield 9, 3) := by decide +kernel
theorem dX8_readFact_62 : decode cX8_readFact 62 = .ok (.bipush 91, 2) := by decide +kernel
theorem dX8_readFact_64 : decode cX8_readFact 64 = .ok (.invokevirtual 66, 3) := by decide +kernel
theorem dX8_readFact_67 : decode cX8_readFact 67 = .ok (.ifCond .eq 59, 3) := by decide +kernel
theorem dX8_readFact_70 : decode cX8_readFact 70 = .ok (.aload_n 0, 1) := by decide +kernel
theorem dX8_readFact_71 : decode cX8_readFact 71 = .ok (.iload_n 1, 1) := by decide +kernel
theorem dX8_readFact_72 : decode cX8_readFact 72 = .ok (.invokevirtual 63, 3) := by decide +kernel
theorem dX8_readFact_75 : decode cX8_readFact 75 = .ok (.ifCond .eq 49, 3) := by decide +kernel
theorem dX8_readFact_78 : decode cX8_readFact 78 = .ok (.aload_n 0, 1) := by decide +kernel
theorem dX8_readFact_79 : decode cX8_readFact 79 = .ok (.getfield 9, 3) := by decide +kernel
theorem dX8_readFact_82 : decode cX8_readFact 82 = .ok (.invokevirtual 28, 3) := by decide +kernel
theorem dX8_readFact_85 : decode cX8_readFact 85 = .ok (.ifCond .eq 39, 3) := by decide +kernel
theorem dX8_readFact_88 : decode cX8_readFact 88 = .ok (.aload_n 0, 1) := by decide +kernel
theorem dX8_readFact_89 : decode cX8_readFact 89 = .ok (.iload_n 1, 1) := by decide +kernel
theorem dX8_readFact_90 : decode cX8_readFact 90 = .ok (.iconst 1, 1) := by decide +kernel
theorem dX8_readFact_91 : decode cX8_readFact 91 = .ok (.iadd, 1) := by decide +kernel
theorem dX8_readFact_92 : decode cX8_readFact 92 = .ok (.invokevirtual 34, 3) := by decide +kernel
theorem dX8_readFact_95 : decode cX8_readFact 95 = .ok (.ifCond .eq 29, 3) := by decide +kernel
theorem dX8_readFact_98 : decode cX8_readFact 98 = .ok (.aload_n 0, 1) := by decide +kernel
theorem dX8_readFact_99 : decode cX8_readFact 99 = .ok (.getfield 9, 3) := by decide +kernel
theorem dX8_readFact_102 : decode cX8_readFact 102 = .ok (.bipush 93, 2) := by decide +kernel
theorem dX8_readFact_104 : decode cX8_readFact 104 = .ok (.invokevirtual 69, 3) := by decide +kernel
theorem dX8_readFact_107 : decode cX8_readFact 107 = .ok (.ifCond .eq 17, 3) := by decide +kernel
theorem dX8_readFact_110 : decode cX8_readFact 110 = .ok (.aload_n 0, 1) := by decide +kernel
theorem dX8_readFact_111 : decode cX8_readFact 111 = .ok (.getfield 9, 3) := by decide +kernel
theorem dX8_readFact_114 : decode cX8_readFact 114 = .ok (.invokevirtual 28, 3) := by decide +kernel
theorem dX8_readFact_117 : decode cX8_readFact 117 = .ok (.ifCond .eq 7, 3) := by decide +kernel
theorem dX8_readFact_120 : decode cX8_readFact 120 = .ok (.iconst 1, 1) := by decide +kernel
theorem dX8_readFact_121 : decode cX8_readFact 121 = .ok (.goto 4, 3) := by decide +kernel
theorem dX8_readFact_124 : decode cX8_readFact 124 = .ok (.iconst 0, 1) := by decide +kernel
theorem dX8_readFact_125 : decode cX8_readFact 125 = .ok (.ireturn, 1) := by decide +kernel
theorem dX8_readFact_126 : decode cX8_readFact 126 = .ok (.aload_n 0, 1) := by decide +kernel
theorem dX8_readFact_127 : decode cX8_readFact 127 = .ok (.getfield 9, 3) := by decide +kernel
theorem dX8_readFact_130 : decode cX8_readFact 130 = .ok (.bipush 21, 2) := by decide +kernel
theorem dX8_readFact_132 : decode cX8_readFact 132 = .ok (.invokevirtual 54, 3) := by decide +kernel
theorem dX8_readFact_135 : decode cX8_readFact 135 = .ok (.ifCond .eq 30, 3) := by decide +kernel
theorem dX8_readFact_138 : decode cX8_readFact 138 = .ok (.aload_n 0, 1) := by decide +kernel
theorem dX8_readFact_139 : decode cX8_readFact 139 = .ok (.getfield 9, 3) := by decide +kernel
theorem dX8_readFact_142 : decode cX8_readFact 142 = .ok (.invokevirtual 28, 3) := by decide +kernel
theorem dX8_readFact_145 : decode cX8_readFact 145 = .ok (.ifCond .eq 18, 3) := by decide +kernel
theorem dX8_readFact_148 : decode cX8_readFact 148 = .ok (.aload_n 0, 1) := by decide +kernel
theorem dX8_readFact_149 : decode cX8_readFact 149 = .ok (.getfield 19, 3) := by decide +kernel
theorem dX8_readFact_152 : decode cX8_readFact 152 = .ok (.iconst 1, 1) := by decide +kernel
theorem dX8_readFact_153 : decode cX8_readFact 153 = .ok (.invokevirtual 57, 3) := by decide +kernel
theorem dX8_readFact_156 : decode cX8_readFact 156 = .ok (.ifCond .eq 7, 3) := by decide +kernel
theorem dX8_readFact_159 : decode cX8_readFact 159 = .ok (.iconst 1, 1) := by decide +kernel
theorem dX8_readFact_160 : decode cX8_readFact 160 = .ok (.goto 4, 3) := by decide +kernel
theorem dX8_readFact_163 : decode cX8_readFact 163 = .ok (.iconst 0, 1) := by decide +kernel
theorem dX8_readFact_164 : decode cX8_readFact 164 = .ok (.ireturn, 1) := by decide +kernel
theorem dX8_readFact_165 : decode cX8_readFact 165 = .ok (.aload_n 0, 1) := by decide +kernel
theorem dX8_readFact_166 : decode cX8_readFact 166 = .ok (.iload_n 1, 1) := by decide +kernel
theorem dX8_readFact_167 : decode cX8_readFact 167 = .ok (.invokevirtual 38, 3) := by decide +kernel
theorem dX8_readFact_170 : decode cX8_readFact 170 = .ok (.ifCond .ne 5, 3) := by decide +kernel
theorem dX8_readFact_173 : decode cX8_readFact 173 = .ok (.iconst 0, 1) := by decide +kernel
theorem dX8_readFact_174 : decode cX8_readFact 174 = .ok (.ireturn, 1) := by decide +kernel
theorem dX8_readFact_175 : decode cX8_readFact 175 = .ok (.aload_n 0, 1) := by decide +kernel
theorem dX8_readFact_176 : decode cX8_readFact 176 = .ok (.invokevirtual 72, 3) := by decide +kernel
theorem dX8_readFact_179 : decode cX8_readFact 179 = .ok (.istore_n 2, 1) := by decide +kernel
theorem dX8_readFact_180 : decode cX8_readFact 180 = .ok (.iload_n 2, 1) := by decide +kernel
theorem dX8_readFact_181 : decode cX8_readFact 181 = .ok (.ifCond .ne 11, 3) := by decide +kernel
theorem dX8_readFact_184 : decode cX8_readFact 184 = .ok (.aload_n 0, 1) := by decide +kernel
theorem dX8_readFact_185 : decode cX8_readFact 185 = .ok (.getfield 9, 3) := by decide +kernel
theorem dX8_readFact_188 : decode cX8_readFact 188 = .ok (.invokevirtual 76, 3) := by decide +kernel
theorem dX8_readFact_191 : decode cX8_readFact 191 = .ok (.ireturn, 1) := by decide +kernel
theorem dX8_readFact_192 : decode cX8_readFact 192 = .ok (.aload_n 0, 1) := by decide +kernel
theorem dX8_readFact_193 : decode cX8_readFact 193 = .ok (.getfield 9, 3) := by decide +kernel
theorem dX8_readFact_196 : decode cX8_readFact 196 = .ok (.invokevirtual 28, 3) := by decide +kernel
theorem dX8_readFact_199 : decode cX8_readFact 199 = .ok (.ifCond .eq 26, 3) := by decide +kernel
theorem dX8_readFact_202 : decode cX8_readFact 202 = .ok (.aload_n 0, 1) := by decide +kernel
theorem dX8_readFact_203 : decode cX8_readFact 203 = .ok (.iload_n 1, 1) := by decide +kernel
theorem dX8_readFact_204 : decode cX8_readFact 204 = .ok (.invokevirtual 38, 3) := by decide +kernel
theorem dX8_readFact_207 : decode cX8_readFact 207 = .ok (.ifCond .eq 18, 3) := by decide +kernel
theorem dX8_readFact_210 : decode cX8_readFact 210 = .ok (.aload_n 0, 1) := by decide +kernel
theorem dX8_readFact_211 : decode cX8_readFact 211 = .ok (.getfield 19, 3) := by decide +kernel
theorem dX8_readFact_214 : decode cX8_readFact 214 = .ok (.iload_n 2, 1) := by decide +kernel
theorem dX8_readFact_215 : decode cX8_readFact 215 = .ok (.invokevirtual 57, 3) := by decide +kernel
theorem dX8_readFact_218 : decode cX8_readFact 218 = .ok (.ifCond .eq 7, 3) := by decide +kernel
theorem dX8_readFact_221 : decode cX8_readFact 221 = .ok (.iconst 1, 1) := by decide +kernel
theorem dX8_readFact_222 : decode cX8_readFact 222 = .ok (.goto 4, 3) := by decide +kernel
theorem dX8_readFact_225 : decode cX8_readFact 225 = .ok (.iconst 0, 1) := by decide +kernel
theorem dX8_readFact_226 : decode cX8_readFact 226 = .ok (.ireturn, 1) := by decide +kernel
theorem dX8_compareOp_0 : decode cX8_compareOp 0 = .ok (.aload_n 0, 1) := by decide +kernel
theorem dX8_compareOp_1 : decode cX8_compareOp 1 = .ok (.getfield 9, 3) := by decide +kernel
theorem dX8_compareOp_4 : decode cX8_compareOp 4 = .ok (.bipush 60, 2) := by decide +kernel
theorem dX8_compareOp_6 : decode cX8_compareOp 6 = .ok (.invokevirtual 66, 3) := by decide +kernel
theorem dX8_compareOp_9 : decode cX8_compareOp 9 = .ok (.ifCond .eq 6, 3) := by decide +kernel
theorem dX8_compareOp_12 : decode cX8_compareOp 12 = .ok (.bipush (-16), 2) := by decide +kernel
theorem dX8_compareOp_14 : decode cX8_compareOp 14 = .ok (.ireturn, 1) := by decide +kernel
theorem dX8_compareOp_15 : decode cX8_compareOp 15 = .ok (.aload_n 0, 1) := by decide +kernel
theorem dX8_compareOp_16 : decode cX8_compareOp 16 = .ok (.getfield 9, 3) := by decide +kernel
theorem dX8_compareOp_19 : decode cX8_compareOp 19 = .ok (.bipush 62, 2) := by decide +kernel
theorem dX8_compareOp_21 : decode cX8_compareOp 21 = .ok (.invokevirtual 66, 3) := by decide +kernel
theorem dX8_compareOp_24 : decode cX8_compareOp 24 = .ok (.ifCond .eq 6, 3) := by decide +kernel
theorem dX8_compareOp_27 : decode cX8_compareOp 27 = .ok (.bipush (-17), 2) := by decide +kernel
theorem dX8_compareOp_29 : decode cX8_compareOp 29 = .ok (.ireturn, 1) := by decide +kernel
theorem dX8_compareOp_30 : decode cX8_compareOp 30 = .ok (.aload_n 0, 1) := by decide +kernel
theorem dX8_compareOp_31 : decode cX8_compareOp 31 = .ok (.getfield 9, 3) := by decide +kernel
theorem dX8_compareOp_34 : decode cX8_compareOp 34 = .ok (.bipush 61, 2) := by decide +kernel
theorem dX8_compareOp_36 : decode cX8_compareOp 36 = .ok (.invokevirtual 66, 3) := by decide +kernel
theorem dX8_compareOp_39 : decode cX8_compareOp 39 = .ok (.ifCond .eq 8, 3) := by decide +kernel
theorem dX8_compareOp_42 : decode cX8_compareOp 42 = .ok (.bipush (-18), 2) := by decide +kernel
theorem dX8_compareOp_44 : decode cX8_compareOp 44 = .ok (.goto 4, 3) := by decide +kernel
theorem dX8_compareOp_47 : decode cX8_compareOp 47 = .ok (.iconst 0, 1) := by decide +kernel
theorem dX8_compareOp_48 : decode cX8_compareOp 48 = .ok (.ireturn, 1) := by decide +kernel
theorem dX8_readSum_0 : decode cX8_readSum 0 = .ok (.aload_n 0, 1) := by decide +kernel
theorem dX8_readSum_1 : decode cX8_readSum 1 = .ok (.iload_n 1, 1) := by decide +kernel
theorem dX8_readSum_2 : decode cX8_readSum 2 = .ok (.invokevirtual 79, 3) := by decide +kernel
theorem dX8_readSum_5 : decode cX8_readSum 5 = .ok (.istore_n 2, 1) := by decide +kernel
theorem dX8_readSum_6 : decode cX8_readSum 6 = .ok (.iconst 0, 1) := by decide +kernel
theorem dX8_readSum_7 : decode cX8_readSum 7 = .ok (.istore_n 3, 1) := by decide +kernel
theorem dX8_readSum_8 : decode cX8_readSum 8 = .ok (.iload_n 3, 1) := by decide +kernel
theorem dX8_readSum_9 : decode cX8_readSum 9 = .ok (.sipush 1600, 3) := by decide +kernel
theorem dX8_readSum_12 : decode cX8_readSum 12 = .ok (.if_icmp .ge 62, 3) := by decide +kernel
theorem dX8_readSum_15 : decode cX8_readSum 15 = .ok (.iload_n 2, 1) := by decide +kernel
theorem dX8_readSum_16 : decode cX8_readSum 16 = .ok (.ifCond .eq 58, 3) := by decide +kernel
theorem dX8_readSum_19 : decode cX8_readSum 19 = .ok (.aload_n 0, 1) := by decide +kernel
theorem dX8_readSum_20 : decode cX8_readSum 20 = .ok (.invokevirtual 82, 3) := by decide +kernel
theorem dX8_readSum_23 : decode cX8_readSum 23 = .ok (.ifCond .eq 51, 3) := by decide +kernel
theorem dX8_readSum_26 : decode cX8_readSum 26 = .ok (.aload_n 0, 1) := by decide +kernel
theorem dX8_readSum_27 : decode cX8_readSum 27 = .ok (.invokevirtual 82, 3) := by decide +kernel
theorem dX8_readSum_30 : decode cX8_readSum 30 = .ok (.istore 4, 2) := by decide +kernel
theorem dX8_readSum_32 : decode cX8_readSum 32 = .ok (.aload_n 0, 1) := by decide +kernel
theorem dX8_readSum_33 : decode cX8_readSum 33 = .ok (.getfield 9, 3) := by decide +kernel
theorem dX8_readSum_36 : decode cX8_readSum 36 = .ok (.invokevirtual 28, 3) := by decide +kernel
theorem dX8_readSum_39 : decode cX8_readSum 39 = .ok (.ifCond .eq 27, 3) := by decide +kernel
theorem dX8_readSum_42 : decode cX8_readSum 42 = .ok (.aload_n 0, 1) := by decide +kernel
theorem dX8_readSum_43 : decode cX8_readSum 43 = .ok (.iload_n 1, 1) := by decide +kernel
theorem dX8_readSum_44 : decode cX8_readSum 44 = .ok (.invokevirtual 79, 3) := by decide +kernel
theorem dX8_readSum_47 : decode cX8_readSum 47 = .ok (.ifCond .eq 19, 3) := by decide +kernel
theorem dX8_readSum_50 : decode cX8_readSum 50 = .ok (.aload_n 0, 1) := by decide +kernel
theorem dX8_readSum_51 : decode cX8_readSum 51 = .ok (.getfield 19, 3) := by decide +kernel
theorem dX8_readSum_54 : decode cX8_readSum 54 = .ok (.iload 4, 2) := by decide +kernel
theorem dX8_readSum_56 : decode cX8_readSum 56 = .ok (.invokevirtual 57, 3) := by decide +kernel
theorem dX8_readSum_59 : decode cX8_readSum 59 = .ok (.ifCond .eq 7, 3) := by decide +kernel
theorem dX8_readSum_62 : decode cX8_readSum 62 = .ok (.iconst 1, 1) := by decide +kernel
theorem dX8_readSum_63 : decode cX8_readSum 63 = .ok (.goto 4, 3) := by decide +kernel
theorem dX8_readSum_66 : decode cX8_readSum 66 = .ok (.iconst 0, 1) := by decide +kernel
theorem dX8_readSum_67 : decode cX8_readSum 67 = .ok (.istore_n 2, 1) := by decide +kernel
theorem dX8_readSum_68 : decode cX8_readSum 68 = .ok (.iinc 3 1, 3) := by decide +kernel
theorem dX8_readSum_71 : decode cX8_readSum 71 = .ok (.goto (-63), 3) := by decide +kernel
theorem dX8_readSum_74 : decode cX8_readSum 74 = .ok (.iload_n 2, 1) := by decide +kernel
theorem dX8_readSum_75 : decode cX8_readSum 75 = .ok (.ireturn, 1) := by decide +kernel
theorem dX8_addOp_0 : decode cX8_addOp 0 = .ok (.aload_n 0, 1) := by decide +kernel
theorem dX8_addOp_1 : decode cX8_addOp 1 = .ok (.getfield 9, 3) := by decide +kernel
theorem dX8_addOp_4 : decode cX8_addOp 4 = .ok (.bipush 43, 2) := by decide +kernel
theorem dX8_addOp_6 : decode cX8_addOp 6 = .ok (.invokevirtual 66, 3) := by decide +kernel
theorem dX8_addOp_9 : decode cX8_addOp 9 = .ok (.ifCond .eq 6, 3) := by decide +kernel
theorem dX8_addOp_12 : decode cX8_addOp 12 = .ok (.bipush (-9), 2) := by decide +kernel
theorem dX8_addOp_14 : decode cX8_addOp 14 = .ok (.ireturn, 1) := by decide +kernel
theorem dX8_addOp_15 : decode cX8_addOp 15 = .ok (.aload_n 0, 1) := by decide +kernel
theorem dX8_addOp_16 : decode cX8_addOp 16 = .ok (.getfield 9, 3) := by decide +kernel
theorem dX8_addOp_19 : decode cX8_addOp 19 = .ok (.bipush 45, 2) := by decide +kernel
theorem dX8_addOp_21 : decode cX8_addOp 21 = .ok (.invokevirtual 66, 3) := by decide +kernel
theorem dX8_addOp_24 : decode cX8_addOp 24 = .ok (.ifCond .eq 8, 3) := by decide +kernel
theorem dX8_addOp_27 : decode cX8_addOp 27 = .ok (.bipush (-10), 2) := by decide +kernel
theorem dX8_addOp_29 : decode cX8_addOp 29 = .ok (.goto 4, 3) := by decide +kernel
theorem dX8_addOp_32 : decode cX8_addOp 32 = .ok (.iconst 0, 1) := by decide +kernel
theorem dX8_addOp_33 : decode cX8_addOp 33 = .ok (.ireturn, 1) := by decide +kernel
theorem dX8_readProduct_0 : decode cX8_readProduct 0 = .ok (.aload_n 0, 1) := by decide +kernel
theorem dX8_readProduct_1 : decode cX8_readProduct 1 = .ok (.iload_n 1, 1) := by decide +kernel
theorem dX8_readProduct_2 : decode cX8_readProduct 2 = .ok (.invokevirtual 85, 3) := by decide +kernel
theorem dX8_readProduct_5 : decode cX8_readProduct 5 = .ok (.istore_n 2, 1) := by decide +kernel
theorem dX8_readProduct_6 : decode cX8_readProduct 6 = .ok (.iconst 0, 1) := by decide +kernel
theorem dX8_readProduct_7 : decode cX8_readProduct 7 = .ok (.istore_n 3, 1) := by decide +kernel
theorem dX8_readProduct_8 : decode cX8_readProduct 8 = .ok (.iload_n 3, 1) := by decide +kernel
theorem dX8_readProduct_9 : decode cX8_readProduct 9 = .ok (.sipush 1600, 3) := by decide +kernel
theorem dX8_readProduct_12 : decode cX8_readProduct 12 = .ok (.if_icmp .ge 62, 3) := by decide +kernel
theorem dX8_readProduct_15 : decode cX8_readProduct 15 = .ok (.iload_n 2, 1) := by decide +kernel
theorem dX8_readProduct_16 : decode cX8_readProduct 16 = .ok (.ifCond .eq 58, 3) := by decide +kernel
theorem dX8_readProduct_19 : decode cX8_readProduct 19 = .ok (.aload_n 0, 1) := by decide +kernel
theorem dX8_readProduct_20 : decode cX8_readProduct 20 = .ok (.invokevirtual 88, 3) := by decide +kernel
theorem dX8_readProduct_23 : decode cX8_readProduct 23 = .ok (.ifCond .eq 51, 3) := by decide +kernel
theorem dX8_readProduct_26 : decode cX8_readProduct 26 = .ok (.aload_n 0, 1) := by decide +kernel
theorem dX8_readProduct_27 : decode cX8_readProduct 27 = .ok (.invokevirtual 88, 3) := by decide +kernel
theorem dX8_readProduct_30 : decode cX8_readProduct 30 = .ok (.istore 4, 2) := by decide +kernel
theorem dX8_readProduct_32 : decode cX8_readProduct 32 = .ok (.aload_n 0, 1) := by decide +kernel
theorem dX8_readProduct_33 : decode cX8_readProduct 33 = .ok (.getfield 9, 3) := by decide +kernel
theorem dX8_readProduct_36 : decode cX8_readProduct 36 = .ok (.invokevirtual 28, 3) := by decide +kernel
theorem dX8_readProduct_39 : decode cX8_readProduct 39 = .ok (.ifCond .eq 27, 3) := by decide +kernel
theorem dX8_readProduct_42 : decode cX8_readProduct 42 = .ok (.aload_n 0, 1) := by decide +kernel
theorem dX8_readProduct_43 : decode cX8_readProduct 43 = .ok (.iload_n 1, 1) := by decide +kernel
theorem dX8_readProduct_44 : decode cX8_readProduct 44 = .ok (.invokevirtual 85, 3) := by decide +kernel
theorem dX8_readProduct_47 : decode cX8_readProduct 47 = .ok (.ifCond .eq 19, 3) := by decide +kernel
theorem dX8_readProduct_50 : decode cX8_readProduct 50 = .ok (.aload_n 0, 1) := by decide +kernel
theorem dX8_readProduct_51 : decode cX8_readProduct 51 = .ok (.getfield 19, 3) := by decide +kernel
theorem dX8_readProduct_54 : decode cX8_readProduct 54 = .ok (.iload 4, 2) := by decide +kernel
theorem dX8_readProduct_56 : decode cX8_readProduct 56 = .ok (.invokevirtual 57, 3) := by decide +kernel
theorem dX8_readProduct_59 : decode cX8_readProduct 59 = .ok (.ifCond .eq 7, 3) := by decide +kernel
theorem dX8_readProduct_62 : decode cX8_readProduct 62 = .ok (.iconst 1, 1) := by decide +kernel
theorem dX8_readProduct_63 : decode cX8_readProduct 63 = .ok (.goto 4, 3) := by decide +kernel
theorem dX8_readProduct_66 : decode cX8_readProduct 66 = .ok (.iconst 0, 1) := by decide +kernel
theorem dX8_readProduct_67 : decode cX8_readProduct 67 = .ok (.istore_n 2, 1) := by decide +kernel
theorem dX8_readProduct_68 : decode cX8_readProduct 68 = .ok (.iinc 3 1, 3) := by decide +kernel
theorem dX8_readProduct_71 : decode cX8_readProduct 71 = .ok (.goto (-63), 3) := by decide +kernel
theorem dX8_readProduct_74 : decode cX8_readProduct 74 = .ok (.iload_n 2, 1) := by decide +kernel
theorem dX8_readProduct_75 : decode cX8_readProduct 75 = .ok (.ireturn, 1) := by decide +kernel
theorem dX8_timesOp_0 : decode cX8_timesOp 0 = .ok (.aload_n 0, 1) := by decide +kernel
theorem dX8_timesOp_1 : decode cX8_timesOp 1 = .ok (.getfield 9, 3) := by decide +kernel
theorem dX8_timesOp_4 : decode cX8_timesOp 4 = .ok (.bipush 42, 2) := by decide +kernel
theorem dX8_timesOp_6 : decode cX8_timesOp 6 = .ok (.invokevirtual 66, 3) := by decide +kernel
theorem dX8_timesOp_9 : decode cX8_timesOp 9 = .ok (.ifCond .eq 6, 3) := by decide +kernel
theorem dX8_timesOp_12 : decode cX8_timesOp 12 = .ok (.bipush (-11), 2) := by decide +kernel
theorem dX8_timesOp_14 : decode cX8_timesOp 14 = .ok (.ireturn, 1) := by decide +kernel
theorem dX8_timesOp_15 : decode cX8_timesOp 15 = .ok (.aload_n 0, 1) := by decide +kernel
theorem dX8_timesOp_16 : decode cX8_timesOp 16 = .ok (.getfield 9, 3) := by decide +kernel
theorem dX8_timesOp_19 : decode cX8_timesOp 19 = .ok (.bipush 47, 2) := by decide +kernel
theorem dX8_timesOp_21 : decode cX8_timesOp 21 = .ok (.invokevirtual 66, 3) := by decide +kernel
theorem dX8_timesOp_24 : decode cX8_timesOp 24 = .ok (.ifCond .eq 6, 3) := by decide +kernel
theorem dX8_timesOp_27 : decode cX8_timesOp 27 = .ok (.bipush (-12), 2) := by decide +kernel
theorem dX8_timesOp_29 : decode cX8_timesOp 29 = .ok (.ireturn, 1) := by decide +kernel
theorem dX8_timesOp_30 : decode cX8_timesOp 30 = .ok (.aload_n 0, 1) := by decide +kernel
theorem dX8_timesOp_31 : decode cX8_timesOp 31 = .ok (.getfield 9, 3) := by decide +kernel
theorem dX8_timesOp_34 : decode cX8_timesOp 34 = .ok (.bipush 37, 2) := by decide +kernel
theorem dX8_timesOp_36 : decode cX8_timesOp 36 = .ok (.invokevirtual 66, 3) := by decide +kernel
theorem dX8_timesOp_39 : decode cX8_timesOp 39 = .ok (.ifCond .eq 8, 3) := by decide +kernel
theorem dX8_timesOp_42 : decode cX8_timesOp 42 = .ok (.bipush (-13), 2) := by decide +kernel
theorem dX8_timesOp_44 : decode cX8_timesOp 44 = .ok (.goto 4, 3) := by decide +kernel
theorem dX8_timesOp_47 : decode cX8_timesOp 47 = .ok (.iconst 0, 1) := by decide +kernel
theorem dX8_timesOp_48 : decode cX8_timesOp 48 = .ok (.ireturn, 1) := by decide +kernel
theorem dX8_readPart_0 : decode cX8_readPart 0 = .ok (.aload_n 0, 1) := by decide +kernel
theorem dX8_readPart_1 : decode cX8_readPart 1 = .ok (.getfield 9, 3) := by decide +kernel
theorem dX8_readPart_4 : decode cX8_readPart 4 = .ok (.getfield 91, 3) := by decide +kernel
theorem dX8_readPart_7 : decode cX8_readPart 7 = .ok (.iconst 3, 1) := by decide +kernel
theorem dX8_readPart_8 : decode cX8_readPart 8 = .ok (.if_icmp .ne 36, 3) := by decide +kernel
theorem dX8_readPart_11 : decode cX8_readPart 11 = .ok (.aload_n 0, 1) := by decide +kernel
theorem dX8_readPart_12 : decode cX8_readPart 12 = .ok (.getfield 19, 3) := by decide +kernel
theorem dX8_readPart_15 : decode cX8_readPart 15 = .ok (.aload_n 0, 1) := by decide +kernel
theorem dX8_readPart_16 : decode cX8_readPart 16 = .ok (.getfield 9, 3) := by decide +kernel
theorem dX8_readPart_19 : decode cX8_readPart 19 = .ok (.getfield 94, 3) := by decide +kernel
theorem dX8_readPart_22 : decode cX8_readPart 22 = .ok (.invokevirtual 57, 3) := by decide +kernel
theorem dX8_readPart_25 : decode cX8_readPart 25 = .ok (.ifCond .eq 17, 3) := by decide +kernel
theorem dX8_readPart_28 : decode cX8_readPart 28 = .ok (.aload_n 0, 1) := by decide +kernel
theorem dX8_readPart_29 : decode cX8_readPart 29 = .ok (.getfield 9, 3) := by decide +kernel
theorem dX8_readPart_32 : decode cX8_readPart 32 = .ok (.invokevirtual 28, 3) := by decide +kernel
theorem dX8_readPart_35 : decode cX8_readPart 35 = .ok (.ifCond .eq 7, 3) := by decide +kernel
theorem dX8_readPart_38 : decode cX8_readPart 38 = .ok (.iconst 1, 1) := by decide +kernel
theorem dX8_readPart_39 : decode cX8_readPart 39 = .ok (.goto 4, 3) := by decide +kernel
theorem dX8_readPart_42 : decode cX8_readPart 42 = .ok (.iconst 0, 1) := by decide +kernel
theorem dX8_readPart_43 : decode cX8_readPart 43 = .ok (.ireturn, 1) := by decide +kernel
theorem dX8_readPart_44 : decode cX8_readPart 44 = .ok (.aload_n 0, 1) := by decide +kernel
theorem dX8_readPart_45 : decode cX8_readPart 45 = .ok (.getfield 9, 3) := by decide +kernel
theorem dX8_readPart_48 : decode cX8_readPart 48 = .ok (.bipush 40, 2) := by decide +kernel
theorem dX8_readPart_50 : decode cX8_readPart 50 = .ok (.invokevirtual 66, 3) := by decide +kernel
theorem dX8_readPart_53 : decode cX8_readPart 53 = .ok (.ifCond .eq 59, 3) := by decide +kernel
theorem dX8_readPart_56 : decode cX8_readPart 56 = .ok (.aload_n 0, 1) := by decide +kernel
theorem dX8_readPart_57 : decode cX8_readPart 57 = .ok (.iload_n 1, 1) := by decide +kernel
theorem dX8_readPart_58 : decode cX8_readPart 58 = .ok (.invokevirtual 63, 3) := by decide +kernel
theorem dX8_readPart_61 : decode cX8_readPart 61 = .ok (.ifCond .eq 49, 3) := by decide +kernel
theorem dX8_readPart_64 : decode cX8_readPart 64 = .ok (.aload_n 0, 1) := by decide +kernel
theorem dX8_readPart_65 : decode cX8_readPart 65 = .ok (.getfield 9, 3) := by decide +kernel
theorem dX8_readPart_68 : decode cX8_readPart 68 = .ok (.invokevirtual 28, 3) := by decide +kernel
theorem dX8_readPart_71 : decode cX8_readPart 71 = .ok (.ifCond .eq 39, 3) := by decide +kernel
theorem dX8_readPart_74 : decode cX8_readPart 74 = .ok (.aload_n 0, 1) := by decide +kernel
theorem dX8_readPart_75 : decode cX8_readPart 75 = .ok (.iload_n 1, 1) := by decide +kernel
theorem dX8_readPart_76 : decode cX8_readPart 76 = .ok (.iconst 1, 1) := by decide +kernel
theorem dX8_readPart_77 : decode cX8_readPart 77 = .ok (.iadd, 1) := by decide +kernel
theorem dX8_readPart_78 : decode cX8_readPart 78 = .ok (.invokevirtual 38, 3) := by decide +kernel
theorem dX8_readPart_81 : decode cX8_readPart 81 = .ok (.ifCond .eq 29, 3) := by decide +kernel
theorem dX8_readPart_84 : decode cX8_readPart 84 = .ok (.aload_n 0, 1) := by decide +kernel
theorem dX8_readPart_85 : decode cX8_readPart 85 = .ok (.getfield 9, 3) := by decide +kernel
theorem dX8_readPart_88 : decode cX8_readPart 88 = .ok (.bipush 41, 2) := by decide +kernel
theorem dX8_readPart_90 : decode cX8_readPart 90 = .ok (.invokevirtual 69, 3) := by decide +kernel
theorem dX8_readPart_93 : decode cX8_readPart 93 = .ok (.ifCond .eq 17, 3) := by decide +kernel
theorem dX8_readPart_96 : decode cX8_readPart 96 = .ok (.aload_n 0, 1) := by decide +kernel
theorem dX8_readPart_97 : decode cX8_readPart 97 = .ok (.getfield 9, 3) := by decide +kernel
theorem dX8_readPart_100 : decode cX8_readPart 100 = .ok (.invokevirtual 28, 3) := by decide +kernel
theorem dX8_readPart_103 : decode cX8_readPart 103 = .ok (.ifCond .eq 7, 3) := by decide +kernel
theorem dX8_readPart_106 : decode cX8_readPart 106 = .ok (.iconst 1, 1) := by decide +kernel
theorem dX8_readPart_107 : decode cX8_readPart 107 = .ok (.goto 4, 3) := by decide +kernel
theorem dX8_readPart_110 : decode cX8_readPart 110 = .ok (.iconst 0, 1) := by decide +kernel
theorem dX8_readPart_111 : decode cX8_readPart 111 = .ok (.ireturn, 1) := by decide +kernel
theorem dX8_readPart_112 : decode cX8_readPart 112 = .ok (.aload_n 0, 1) := by decide +kernel
theorem dX8_readPart_113 : decode cX8_readPart 113 = .ok (.getfield 9, 3) := by decide +kernel
theorem dX8_readPart_116 : decode cX8_readPart 116 = .ok (.iconst 2, 1) := by decide +kernel
theorem dX8_readPart_117 : decode cX8_readPart 117 = .ok (.invokevirtual 97, 3) := by decide +kernel
theorem dX8_readPart_120 : decode cX8_readPart 120 = .ok (.ifCond .ne 5, 3) := by decide +kernel
theorem dX8_readPart_123 : decode cX8_readPart 123 = .ok (.iconst 0, 1) := by decide +kernel
theorem dX8_readPart_124 : decode cX8_readPart 124 = .ok (.ireturn, 1) := by decide +kernel
theorem dX8_readPart_125 : decode cX8_readPart 125 = .ok (.aload_n 0, 1) := by decide +kernel
theorem dX8_readPart_126 : decode cX8_readPart 126 = .ok (.getfield 9, 3) := by decide +kernel
theorem dX8_readPart_129 : decode cX8_readPart 129 = .ok (.getfield 94, 3) := by decide +kernel
theorem dX8_readPart_132 : decode cX8_readPart 132 = .ok (.lookupswitch 58 #[(17, 52), (22, 36), (23, 44)], 36) := by decide +kernel
theorem dX8_readPart_168 : decode cX8_readPart 168 = .ok (.aload_n 0, 1) := by decide +kernel
theorem dX8_readPart_169 : decode cX8_readPart 169 = .ok (.iload_n 1, 1) := by decide +kernel
theorem dX8_readPart_170 : decode cX8_readPart 170 = .ok (.bipush (-14), 2) := by decide +kernel
theorem dX8_readPart_172 : decode cX8_readPart 172 = .ok (.invokevirtual 100, 3) := by decide +kernel
theorem dX8_readPart_175 : decode cX8_readPart 175 = .ok (.ireturn, 1) := by decide +kernel
theorem dX8_readPart_176 : decode cX8_readPart 176 = .ok (.aload_n 0, 1) := by decide +kernel
theorem dX8_readPart_177 : decode cX8_readPart 177 = .ok (.iload_n 1, 1) := by decide +kernel
theorem dX8_readPart_178 : decode cX8_readPart 178 = .ok (.bipush (-15), 2) := by decide +kernel
theorem dX8_readPart_180 : decode cX8_readPart 180 = .ok (.invokevirtual 100, 3) := by decide +kernel
theorem dX8_readPart_183 : decode cX8_readPart 183 = .ok (.ireturn, 1) := by decide +kernel
theorem dX8_readPart_184 : decode cX8_readPart 184 = .ok (.aload_n 0, 1) := by decide +kernel
theorem dX8_readPart_185 : decode cX8_readPart 185 = .ok (.iload_n 1, 1) := by decide +kernel
theorem dX8_readPart_186 : decode cX8_readPart 186 = .ok (.invokevirtual 104, 3) := by decide +kernel
theorem dX8_readPart_189 : decode cX8_readPart 189 = .ok (.ireturn, 1) := by decide +kernel
theorem dX8_readPart_190 : decode cX8_readPart 190 = .ok (.aload_n 0, 1) := by decide +kernel
theorem dX8_readPart_191 : decode cX8_readPart 191 = .ok (.aload_n 0, 1) := by decide +kernel
theorem dX8_readPart_192 : decode cX8_readPart 192 = .ok (.getfield 9, 3) := by decide +kernel
theorem dX8_readPart_195 : decode cX8_readPart 195 = .ok (.getfield 94, 3) := by decide +kernel
theorem dX8_readPart_198 : decode cX8_readPart 198 = .ok (.invokevirtual 107, 3) := by decide +kernel
theorem dX8_readPart_201 : decode cX8_readPart 201 = .ok (.istore_n 2, 1) := by decide +kernel
theorem dX8_readPart_202 : decode cX8_readPart 202 = .ok (.iload_n 2, 1) := by decide +kernel
theorem dX8_readPart_203 : decode cX8_readPart 203 = .ok (.ifCond .ne 13, 3) := by decide +kernel
theorem dX8_readPart_206 : decode cX8_readPart 206 = .ok (.aload_n 0, 1) := by decide +kernel
theorem dX8_readPart_207 : decode cX8_readPart 207 = .ok (.getfield 9, 3) := by decide +kernel
theorem dX8_readPart_210 : decode cX8_readPart 210 = .ok (.invokevirtual 76, 3) := by decide +kernel
theorem dX8_readPart_213 : decode cX8_readPart 213 = .ok (.goto 29, 3) := by decide +kernel
theorem dX8_readPart_216 : decode cX8_readPart 216 = .ok (.aload_n 0, 1) := by decide +kernel
theorem dX8_readPart_217 : decode cX8_readPart 217 = .ok (.getfield 19, 3) := by decide +kernel
theorem dX8_readPart_220 : decode cX8_readPart 220 = .ok (.iload_n 2, 1) := by decide +kernel
theorem dX8_readPart_221 : decode cX8_readPart 221 = .ok (.invokevirtual 57, 3) := by decide +kernel
theorem dX8_readPart_224 : decode cX8_readPart 224 = .ok (.ifCond .eq 17, 3) := by decide +kernel
theorem dX8_readPart_227 : decode cX8_readPart 227 = .ok (.aload_n 0, 1) := by decide +kernel
theorem dX8_readPart_228 : decode cX8_readPart 228 = .ok (.getfield 9, 3) := by decide +kernel
theorem dX8_readPart_231 : decode cX8_readPart 231 = .ok (.invokevirtual 28, 3) := by decide +kernel
theorem dX8_readPart_234 : decode cX8_readPart 234 = .ok (.ifCond .eq 7, 3) := by decide +kernel
theorem dX8_readPart_237 : decode cX8_readPart 237 = .ok (.iconst 1, 1) := by decide +kernel
theorem dX8_readPart_238 : decode cX8_readPart 238 = .ok (.goto 4, 3) := by decide +kernel
theorem dX8_readPart_241 : decode cX8_readPart 241 = .ok (.iconst 0, 1) := by decide +kernel
theorem dX8_readPart_242 : decode cX8_readPart 242 = .ok (.ireturn, 1) := by decide +kernel
theorem dX8_readPair_0 : decode cX8_readPair 0 = .ok (.aload_n 0, 1) := by decide +kernel
theorem dX8_readPair_1 : decode cX8_readPair 1 = .ok (.getfield 9, 3) := by decide +kernel
theorem dX8_readPair_4 : decode cX8_readPair 4 = .ok (.invokevirtual 28, 3) := by decide +kernel
theorem dX8_readPair_7 : decode cX8_readPair 7 = .ok (.ifCond .eq 112, 3) := by decide +kernel
theorem dX8_readPair_10 : decode cX8_readPair 10 = .ok (.aload_n 0, 1) := by decide +kernel
theorem dX8_readPair_11 : decode cX8_readPair 11 = .ok (.getfield 9, 3) := by decide +kernel
theorem dX8_readPair_14 : decode cX8_readPair 14 = .ok (.bipush 40, 2) := by decide +kernel
theorem dX8_readPair_16 : decode cX8_readPair 16 = .ok (.invokevirtual 69, 3) := by decide +kernel
theorem dX8_readPair_19 : decode cX8_readPair 19 = .ok (.ifCond .eq 100, 3) := by decide +kernel
theorem dX8_readPair_22 : decode cX8_readPair 22 = .ok (.aload_n 0, 1) := by decide +kernel
theorem dX8_readPair_23 : decode cX8_readPair 23 = .ok (.iload_n 1, 1) := by decide +kernel
theorem dX8_readPair_24 : decode cX8_readPair 24 = .ok (.invokevirtual 63, 3) := by decide +kernel
theorem dX8_readPair_27 : decode cX8_readPair 27 = .ok (.ifCond .eq 92, 3) := by decide +kernel
theorem dX8_readPair_30 : decode cX8_readPair 30 = .ok (.aload_n 0, 1) := by decide +kernel
theorem dX8_readPair_31 : decode cX8_readPair 31 = .ok (.getfield 9, 3) := by decide +kernel
theorem dX8_readPair_34 : decode cX8_readPair 34 = .ok (.invokevirtual 28, 3) := by decide +kernel
theorem dX8_readPair_37 : decode cX8_readPair 37 = .ok (.ifCond .eq 82, 3) := by decide +kernel
theorem dX8_readPair_40 : decode cX8_readPair 40 = .ok (.aload_n 0, 1) := by decide +kernel
theorem dX8_readPair_41 : decode cX8_readPair 41 = .ok (.iload_n 1, 1) := by decide +kernel
theorem dX8_readPair_42 : decode cX8_readPair 42 = .ok (.iconst 1, 1) := by decide +kernel
theorem dX8_readPair_43 : decode cX8_readPair 43 = .ok (.iadd, 1) := by decide +kernel
theorem dX8_readPair_44 : decode cX8_readPair 44 = .ok (.invokevirtual 38, 3) := by decide +kernel
theorem dX8_readPair_47 : decode cX8_readPair 47 = .ok (.ifCond .eq 72, 3) := by decide +kernel
theorem dX8_readPair_50 : decode cX8_readPair 50 = .ok (.aload_n 0, 1) := by decide +kernel
theorem dX8_readPair_51 : decode cX8_readPair 51 = .ok (.getfield 9, 3) := by decide +kernel
theorem dX8_readPair_54 : decode cX8_readPair 54 = .ok (.bipush 44, 2) := by decide +kernel
theorem dX8_readPair_56 : decode cX8_readPair 56 = .ok (.invokevirtual 69, 3) := by decide +kernel
theorem dX8_readPair_59 : decode cX8_readPair 59 = .ok (.ifCond .eq 60, 3) := by decide +kernel
theorem dX8_readPair_62 : decode cX8_readPair 62 = .ok (.aload_n 0, 1) := by decide +kernel
theorem dX8_readPair_63 : decode cX8_readPair 63 = .ok (.getfield 9, 3) := by decide +kernel
theorem dX8_readPair_66 : decode cX8_readPair 66 = .ok (.invokevirtual 28, 3) := by decide +kernel
theorem dX8_readPair_69 : decode cX8_readPair 69 = .ok (.ifCond .eq 50, 3) := by decide +kernel
theorem dX8_readPair_72 : decode cX8_readPair 72 = .ok (.aload_n 0, 1) := by decide +kernel
theorem dX8_readPair_73 : decode cX8_readPair 73 = .ok (.iload_n 1, 1) := by decide +kernel
theorem dX8_readPair_74 : decode cX8_readPair 74 = .ok (.iconst 1, 1) := by decide +kernel
theorem dX8_readPair_75 : decode cX8_readPair 75 = .ok (.iadd, 1) := by decide +kernel
theorem dX8_readPair_76 : decode cX8_readPair 76 = .ok (.invokevirtual 38, 3) := by decide +kernel
theorem dX8_readPair_79 : decode cX8_readPair 79 = .ok (.ifCond .eq 40, 3) := by decide +kernel
theorem dX8_readPair_82 : decode cX8_readPair 82 = .ok (.aload_n 0, 1) := by decide +kernel
theorem dX8_readPair_83 : decode cX8_readPair 83 = .ok (.getfield 9, 3) := by decide +kernel
theorem dX8_readPair_86 : decode cX8_readPair 86 = .ok (.bipush 41, 2) := by decide +kernel
theorem dX8_readPair_88 : decode cX8_readPair 88 = .ok (.invokevirtual 69, 3) := by decide +kernel
theorem dX8_readPair_91 : decode cX8_readPair 91 = .ok (.ifCond .eq 28, 3) := by decide +kernel
theorem dX8_readPair_94 : decode cX8_readPair 94 = .ok (.aload_n 0, 1) := by decide +kernel
theorem dX8_readPair_95 : decode cX8_readPair 95 = .ok (.getfield 9, 3) := by decide +kernel
theorem dX8_readPair_98 : decode cX8_readPair 98 = .ok (.invokevirtual 28, 3) := by decide +kernel
theorem dX8_readPair_101 : decode cX8_readPair 101 = .ok (.ifCond .eq 18, 3) := by decide +kernel
theorem dX8_readPair_104 : decode cX8_readPair 104 = .ok (.aload_n 0, 1) := by decide +kernel
theorem dX8_readPair_105 : decode cX8_readPair 105 = .ok (.getfield 19, 3) := by decide +kernel
theorem dX8_readPair_108 : decode cX8_readPair 108 = .ok (.iload_n 2, 1) := by decide +kernel
theorem dX8_readPair_109 : decode cX8_readPair 109 = .ok (.invokevirtual 57, 3) := by decide +kernel
theorem dX8_readPair_112 : decode cX8_readPair 112 = .ok (.ifCond .eq 7, 3) := by decide +kernel
theorem dX8_readPair_115 : decode cX8_readPair 115 = .ok (.iconst 1, 1) := by decide +kernel
theorem dX8_readPair_116 : decode cX8_readPair 116 = .ok (.goto 4, 3) := by decide +kernel
theorem dX8_readPair_119 : decode cX8_readPair 119 = .ok (.iconst 0, 1) := by decide +kernel
theorem dX8_readPair_120 : decode cX8_readPair 120 = .ok (.ireturn, 1) := by decide +kernel
theorem dX8_readChoice_0 : decode cX8_readChoice 0 = .ok (.aload_n 0, 1) := by decide +kernel
theorem dX8_readChoice_1 : decode cX8_readChoice 1 = .ok (.getfield 9, 3) := by decide +kernel
theorem dX8_readChoice_4 : decode cX8_readChoice 4 = .ok (.invokevirtual 28, 3) := by decide +kernel
theorem dX8_readChoice_7 : decode cX8_readChoice 7 = .ok (.ifCond .eq 145, 3) := by decide +kernel
theorem dX8_readChoice_10 : decode cX8_readChoice 10 = .ok (.aload_n 0, 1) := by decide +kernel
theorem dX8_readChoice_11 : decode cX8_readChoice 11 = .ok (.getfield 9, 3) := by decide +kernel
theorem dX8_readChoice_14 : decode cX8_readChoice 14 = .ok (.bipush 40, 2) := by decide +kernel
theorem dX8_readChoice_16 : decode cX8_readChoice 16 = .ok (.invokevirtual 69, 3) := by decide +kernel
theorem dX8_readChoice_19 : decode cX8_readChoice 19 = .ok (.ifCond .eq 133, 3) := by decide +kernel
theorem dX8_readChoice_22 : decode cX8_readChoice 22 = .ok (.aload_n 0, 1) := by decide +kernel
theorem dX8_readChoice_23 : decode cX8_readChoice 23 = .ok (.iload_n 1, 1) := by decide +kernel
theorem dX8_readChoice_24 : decode cX8_readChoice 24 = .ok (.invokevirtual 63, 3) := by decide +kernel
theorem dX8_readChoice_27 : decode cX8_readChoice 27 = .ok (.ifCond .eq 125, 3) := by decide +kernel
theorem dX8_readChoice_30 : decode cX8_readChoice 30 = .ok (.aload_n 0, 1) := by decide +kernel
theorem dX8_readChoice_31 : decode cX8_readChoice 31 = .ok (.getfield 9, 3) := by decide +kernel
theorem dX8_readChoice_34 : decode cX8_readChoice 34 = .ok (.invokevirtual 28, 3) := by decide +kernel
theorem dX8_readChoice_37 : decode cX8_readChoice 37 = .ok (.ifCond .eq 115, 3) := by decide +kernel
theorem dX8_readChoice_40 : decode cX8_readChoice 40 = .ok (.aload_n 0, 1) := by decide +kernel
theorem dX8_readChoice_41 : decode cX8_readChoice 41 = .ok (.iload_n 1, 1) := by decide +kernel
theorem dX8_readChoice_42 : decode cX8_readChoice 42 = .ok (.iconst 1, 1) := by decide +kernel
theorem dX8_readChoice_43 : decode cX8_readChoice 43 = .ok (.iadd, 1) := by decide +kernel
theorem dX8_readChoice_44 : decode cX8_readChoice 44 = .ok (.invokevirtual 34, 3) := by decide +kernel
theorem dX8_readChoice_47 : decode cX8_readChoice 47 = .ok (.ifCond .eq 105, 3) := by decide +kernel
theorem dX8_readChoice_50 : decode cX8_readChoice 50 = .ok (.aload_n 0, 1) := by decide +kernel
theorem dX8_readChoice_51 : decode cX8_readChoice 51 = .ok (.getfield 9, 3) := by decide +kernel
theorem dX8_readChoice_54 : decode cX8_readChoice 54 = .ok (.bipush 44, 2) := by decide +kernel
theorem dX8_readChoice_56 : decode cX8_readChoice 56 = .ok (.invokevirtual 69, 3) := by decide +kernel
theorem dX8_readChoice_59 : decode cX8_readChoice 59 = .ok (.ifCond .eq 93, 3) := by decide +kernel
theorem dX8_readChoice_62 : decode cX8_readChoice 62 = .ok (.aload_n 0, 1) := by decide +kernel
theorem dX8_readChoice_63 : decode cX8_readChoice 63 = .ok (.getfield 9, 3) := by decide +kernel
theorem dX8_readChoice_66 : decode cX8_readChoice 66 = .ok (.invokevirtual 28, 3) := by decide +kernel
theorem dX8_readChoice_69 : decode cX8_readChoice 69 = .ok (.ifCond .eq 83, 3) := by decide +kernel
theorem dX8_readChoice_72 : decode cX8_readChoice 72 = .ok (.aload_n 0, 1) := by decide +kernel
theorem dX8_readChoice_73 : decode cX8_readChoice 73 = .ok (.iload_n 1, 1) := by decide +kernel
theorem dX8_readChoice_74 : decode cX8_readChoice 74 = .ok (.iconst 1, 1) := by decide +kernel
theorem dX8_readChoice_75 : decode cX8_readChoice 75 = .ok (.iadd, 1) := by decide +kernel
theorem dX8_readChoice_76 : decode cX8_readChoice 76 = .ok (.invokevirtual 38, 3) := by decide +kernel
theorem dX8_readChoice_79 : decode cX8_readChoice 79 = .ok (.ifCond .eq 73, 3) := by decide +kernel
theorem dX8_readChoice_82 : decode cX8_readChoice 82 = .ok (.aload_n 0, 1) := by decide +kernel
theorem dX8_readChoice_83 : decode cX8_readChoice 83 = .ok (.getfield 9, 3) := by decide +kernel
theorem dX8_readChoice_86 : decode cX8_readChoice 86 = .ok (.bipush 44, 2) := by decide +kernel
theorem dX8_readChoice_88 : decode cX8_readChoice 88 = .ok (.invokevirtual 69, 3) := by decide +kernel
theorem dX8_readChoice_91 : decode cX8_readChoice 91 = .ok (.ifCond .eq 61, 3) := by decide +kernel
theorem dX8_readChoice_94 : decode cX8_readChoice 94 = .ok (.aload_n 0, 1) := by decide +kernel
theorem dX8_readChoice_95 : decode cX8_readChoice 95 = .ok (.getfield 9, 3) := by decide +kernel
theorem dX8_readChoice_98 : decode cX8_readChoice 98 = .ok (.invokevirtual 28, 3) := by decide +kernel
theorem dX8_readChoice_101 : decode cX8_readChoice 101 = .ok (.ifCond .eq 51, 3) := by decide +kernel
theorem dX8_readChoice_104 : decode cX8_readChoice 104 = .ok (.aload_n 0, 1) := by decide +kernel
theorem dX8_readChoice_105 : decode cX8_readChoice 105 = .ok (.iload_n 1, 1) := by decide +kernel
theorem dX8_readChoice_106 : decode cX8_readChoice 106 = .ok (.iconst 1, 1) := by decide +kernel
theorem dX8_readChoice_107 : decode cX8_readChoice 107 = .ok (.iadd, 1) := by decide +kernel
theorem dX8_readChoice_108 : decode cX8_readChoice 108 = .ok (.invokevirtual 38, 3) := by decide +kernel
theorem dX8_readChoice_111 : decode cX8_readChoice 111 = .ok (.ifCond .eq 41, 3) := by decide +kernel
theorem dX8_readChoice_114 : decode cX8_readChoice 114 = .ok (.aload_n 0, 1) := by decide +kernel
theorem dX8_readChoice_115 : decode cX8_readChoice 115 = .ok (.getfield 9, 3) := by decide +kernel
theorem dX8_readChoice_118 : decode cX8_readChoice 118 = .ok (.bipush 41, 2) := by decide +kernel
theorem dX8_readChoice_120 : decode cX8_readChoice 120 = .ok (.invokevirtual 69, 3) := by decide +kernel
theorem dX8_readChoice_123 : decode cX8_readChoice 123 = .ok (.ifCond .eq 29, 3) := by decide +kernel
theorem dX8_readChoice_126 : decode cX8_readChoice 126 = .ok (.aload_n 0, 1) := by decide +kernel
theorem dX8_readChoice_127 : decode cX8_readChoice 127 = .ok (.getfield 9, 3) := by decide +kernel
theorem dX8_readChoice_130 : decode cX8_readChoice 130 = .ok (.invokevirtual 28, 3) := by decide +kernel
theorem dX8_readChoice_133 : decode cX8_readChoice 133 = .ok (.ifCond .eq 19, 3) := by decide +kernel
theorem dX8_readChoice_136 : decode cX8_readChoice 136 = .ok (.aload_n 0, 1) := by decide +kernel
theorem dX8_readChoice_137 : decode cX8_readChoice 137 = .ok (.getfield 19, 3) := by decide +kernel
theorem dX8_readChoice_140 : decode cX8_readChoice 140 = .ok (.bipush (-8), 2) := by decide +kernel
theorem dX8_readChoice_142 : decode cX8_readChoice 142 = .ok (.invokevirtual 57, 3) := by decide +kernel
theorem dX8_readChoice_145 : decode cX8_readChoice 145 = .ok (.ifCond .eq 7, 3) := by decide +kernel
theorem dX8_readChoice_148 : decode cX8_readChoice 148 = .ok (.iconst 1, 1) := by decide +kernel
theorem dX8_readChoice_149 : decode cX8_readChoice 149 = .ok (.goto 4, 3) := by decide +kernel
theorem dX8_readChoice_152 : decode cX8_readChoice 152 = .ok (.iconst 0, 1) := by decide +kernel
theorem dX8_readChoice_153 : decode cX8_readChoice 153 = .ok (.ireturn, 1) := by decide +kernel
theorem dX8_figureOp_0 : decode cX8_figureOp 0 = .ok (.iload_n 1, 1) := by decide +kernel
theorem dX8_figureOp_1 : decode cX8_figureOp 1 = .ok (.tableswitch 147 5 24 #[95, 147, 147, 147, 147, 147, 147, 147, 97, 100, 117, 132, 147, 147, 147, 147, 147, 147, 147, 103], 95) := by decide +kernel
theorem dX8_figureOp_96 : decode cX8_figureOp 96 = .ok (.iconst (-1), 1) := by decide +kernel
theorem dX8_figureOp_97 : decode cX8_figureOp 97 = .ok (.ireturn, 1) := by decide +kernel
theorem dX8_figureOp_98 : decode cX8_figureOp 98 = .ok (.bipush (-2), 2) := by decide +kernel
theorem dX8_figureOp_100 : decode cX8_figureOp 100 = .ok (.ireturn, 1) := by decide +kernel
theorem dX8_figureOp_101 : decode cX8_figureOp 101 = .ok (.bipush (-3), 2) := by decide +kernel
theorem dX8_figureOp_103 : decode cX8_figureOp 103 = .ok (.ireturn, 1) := by decide +kernel
theorem dX8_figureOp_104 : decode cX8_figureOp 104 = .ok (.aload_n 0, 1) := by decide +kernel
theorem dX8_figureOp_105 : decode cX8_figureOp 105 = .ok (.getfield 15, 3) := by decide +kernel
theorem dX8_figureOp_108 : decode cX8_figureOp 108 = .ok (.ifCond .ne 8, 3) := by decide +kernel
theorem dX8_figureOp_111 : decode cX8_figureOp 111 = .ok (.bipush (-4), 2) := by decide +kernel
theorem dX8_figureOp_113 : decode cX8_figureOp 113 = .ok (.goto 4, 3) := by decide +kernel
theorem dX8_figureOp_116 : decode cX8_figureOp 116 = .ok (.iconst 0, 1) := by decide +kernel
theorem dX8_figureOp_117 : decode cX8_figureOp 117 = .ok (.ireturn, 1) := by decide +kernel
theorem dX8_figureOp_118 : decode cX8_figureOp 118 = .ok (.aload_n 0, 1) := by decide +kernel
theorem dX8_figureOp_119 : decode cX8_figureOp 119 = .ok (.getfield 15, 3) := by decide +kernel
theorem dX8_figureOp_122 : decode cX8_figureOp 122 = .ok (.iconst 2, 1) := by decide +kernel
theorem dX8_figureOp_123 : decode cX8_figureOp 123 = .ok (.if_icmp .ne 8, 3) := by decide +kernel
theorem dX8_figureOp_126 : decode cX8_figureOp 126 = .ok (.bipush (-5), 2) := by decide +kernel
theorem dX8_figureOp_128 : decode cX8_figureOp 128 = .ok (.goto 4, 3) := by decide +kernel
theorem dX8_figureOp_131 : decode cX8_figureOp 131 = .ok (.iconst 0, 1) := by decide +kernel
theorem dX8_figureOp_132 : decode cX8_figureOp 132 = .ok (.ireturn, 1) := by decide +kernel
theorem dX8_figureOp_133 : decode cX8_figureOp 133 = .ok (.aload_n 0, 1) := by decide +kernel
theorem dX8_figureOp_134 : decode cX8_figureOp 134 = .ok (.getfield 15, 3) := by decide +kernel
theorem dX8_figureOp_137 : decode cX8_figureOp 137 = .ok (.iconst 2, 1) := by decide +kernel
theorem dX8_figureOp_138 : decode cX8_figureOp 138 = .ok (.if_icmp .ne 8, 3) := by decide +kernel
theorem dX8_figureOp_141 : decode cX8_figureOp 141 = .ok (.bipush (-6), 2) := by decide +kernel
theorem dX8_figureOp_143 : decode cX8_figureOp 143 = .ok (.goto 4, 3) := by decide +kernel
theorem dX8_figureOp_146 : decode cX8_figureOp 146 = .ok (.iconst 0, 1) := by decide +kernel
theorem dX8_figureOp_147 : decode cX8_figureOp 147 = .ok (.ireturn, 1) := by decide +kernel
theorem dX8_figureOp_148 : decode cX8_figureOp 148 = .ok (.iconst 0, 1) := by decide +kernel
theorem dX8_figureOp_149 : decode cX8_figureOp 149 = .ok (.ireturn, 1) := by decide +kernel
theorem dX9_init_0 : decode cX9_init 0 = .ok (.aload_n 0, 1) := by decide +kernel
theorem dX9_init_1 : decode cX9_init 1 = .ok (.invokespecial 3, 3) := by decide +kernel
theorem dX9_init_4 : decode cX9_init 4 = .ok (.aload_n 0, 1) := by decide +kernel
theorem dX9_init_5 : decode cX9_init 5 = .ok (.bipush 8, 2) := by decide +kernel
theorem dX9_init_7 : decode cX9_init 7 = .ok (.newarray .int, 2) := by decide +kernel
theorem dX9_init_9 : decode cX9_init 9 = .ok (.putfield 9, 3) := by decide +kernel
theorem dX9_init_12 : decode cX9_init 12 = .ok (.aload_n 0, 1) := by decide +kernel
theorem dX9_init_13 : decode cX9_init 13 = .ok (.bipush 8, 2) := by decide +kernel
theorem dX9_init_15 : decode cX9_init 15 = .ok (.newarray .int, 2) := by decide +kernel
theorem dX9_init_17 : decode cX9_init 17 = .ok (.putfield 15, 3) := by decide +kernel
theorem dX9_init_20 : decode cX9_init 20 = .ok (.aload_n 0, 1) := by decide +kernel
theorem dX9_init_21 : decode cX9_init 21 = .ok (.bipush 8, 2) := by decide +kernel
theorem dX9_init_23 : decode cX9_init 23 = .ok (.newarray .int, 2) := by decide +kernel
theorem dX9_init_25 : decode cX9_init 25 = .ok (.putfield 18, 3) := by decide +kernel
theorem dX9_init_28 : decode cX9_init 28 = .ok (.aload_n 0, 1) := by decide +kernel
theorem dX9_init_29 : decode cX9_init 29 = .ok (.bipush 36, 2) := by decide +kernel
theorem dX9_init_31 : decode cX9_init 31 = .ok (.newarray .int, 2) := by decide +kernel
theorem dX9_init_33 : decode cX9_init 33 = .ok (.putfield 21, 3) := by decide +kernel
theorem dX9_init_36 : decode cX9_init 36 = .ok (.aload_n 0, 1) := by decide +kernel
theorem dX9_init_37 : decode cX9_init 37 = .ok (.bipush 8, 2) := by decide +kernel
theorem dX9_init_39 : decode cX9_init 39 = .ok (.newarray .int, 2) := by decide +kernel
theorem dX9_init_41 : decode cX9_init 41 = .ok (.putfield 24, 3) := by decide +kernel
theorem dX9_init_44 : decode cX9_init 44 = .ok (.aload_n 0, 1) := by decide +kernel
theorem dX9_init_45 : decode cX9_init 45 = .ok (.new 27, 3) := by decide +kernel
theorem dX9_init_48 : decode cX9_init 48 = .ok (.dup, 1) := by decide +kernel
theorem dX9_init_49 : decode cX9_init 49 = .ok (.invokespecial 29, 3) := by decide +kernel
theorem dX9_init_52 : decode cX9_init 52 = .ok (.putfield 30, 3) := by decide +kernel
theorem dX9_init_55 : decode cX9_init 55 = .ok (.return_, 1) := by decide +kernel
theorem dX9_begin_0 : decode cX9_begin 0 = .ok (.aload_n 0, 1) := by decide +kernel
theorem dX9_begin_1 : decode cX9_begin 1 = .ok (.aload_n 1, 1) := by decide +kernel
theorem dX9_begin_2 : decode cX9_begin 2 = .ok (.putfield 34, 3) := by decide +kernel
theorem dX9_begin_5 : decode cX9_begin 5 = .ok (.aload_n 0, 1) := by decide +kernel
theorem dX9_begin_6 : decode cX9_begin 6 = .ok (.iconst 0, 1) := by decide +kernel
theorem dX9_begin_7 : decode cX9_begin 7 = .ok (.putfield 38, 3) := by decide +kernel
theorem dX9_begin_10 : decode cX9_begin 10 = .ok (.aload_n 0, 1) := by decide +kernel
theorem dX9_begin_11 : decode cX9_begin 11 = .ok (.getfield 34, 3) := by decide +kernel
theorem dX9_begin_14 : decode cX9_begin 14 = .ok (.getfield 42, 3) := by decide +kernel
theorem dX9_begin_17 : decode cX9_begin 17 = .ok (.iconst 0, 1) := by decide +kernel
theorem dX9_begin_18 : decode cX9_begin 18 = .ok (.aload_n 0, 1) := by decide +kernel
theorem dX9_begin_19 : decode cX9_begin 19 = .ok (.getfield 9, 3) := by decide +kernel
theorem dX9_begin_22 : decode cX9_begin 22 = .ok (.iconst 0, 1) := by decide +kernel
theorem dX9_begin_23 : decode cX9_begin 23 = .ok (.bipush 8, 2) := by decide +kernel
theorem dX9_begin_25 : decode cX9_begin 25 = .ok (.invokestatic 45, 3) := by decide +kernel
theorem dX9_begin_28 : decode cX9_begin 28 = .ok (.aload_n 0, 1) := by decide +kernel
theorem dX9_begin_29 : decode cX9_begin 29 = .ok (.getfield 34, 3) := by decide +kernel
theorem dX9_begin_32 : decode cX9_begin 32 = .ok (.getfield 51, 3) := by decide +kernel
theorem dX9_begin_35 : decode cX9_begin 35 = .ok (.iconst 0, 1) := by decide +kernel
theorem dX9_begin_36 : decode cX9_begin 36 = .ok (.aload_n 0, 1) := by decide +kernel
theorem dX9_begin_37 : decode cX9_begin 37 = .ok (.getfield 15, 3) := by decide +kernel
theorem dX9_begin_40 : decode cX9_begin 40 = .ok (.iconst 0, 1) := by decide +kernel
theorem dX9_begin_41 : decode cX9_begin 41 = .ok (.bipush 8, 2) := by decide +kernel
theorem dX9_begin_43 : decode cX9_begin 43 = .ok (.invokestatic 45, 3) := by decide +kernel
theorem dX9_begin_46 : decode cX9_begin 46 = .ok (.aload_n 0, 1) := by decide +kernel
theorem dX9_begin_47 : decode cX9_begin 47 = .ok (.getfield 34, 3) := by decide +kernel
theorem dX9_begin_50 : decode cX9_begin 50 = .ok (.getfield 52, 3) := by decide +kernel
theorem dX9_begin_53 : decode cX9_begin 53 = .ok (.iconst 0, 1) := by decide +kernel
theorem dX9_begin_54 : decode cX9_begin 54 = .ok (.aload_n 0, 1) := by decide +kernel
theorem dX9_begin_55 : decode cX9_begin 55 = .ok (.getfield 18, 3) := by decide +kernel
theorem dX9_begin_58 : decode cX9_begin 58 = .ok (.iconst 0, 1) := by decide +kernel
theorem dX9_begin_59 : decode cX9_begin 59 = .ok (.bipush 8, 2) := by decide +kernel
theorem dX9_begin_61 : decode cX9_begin 61 = .ok (.invokestatic 45, 3) := by decide +kernel
theorem dX9_begin_64 : decode cX9_begin 64 = .ok (.aload_n 0, 1) := by decide +kernel
theorem dX9_begin_65 : decode cX9_begin 65 = .ok (.getfield 34, 3) := by decide +kernel
theorem dX9_begin_68 : decode cX9_begin 68 = .ok (.getfield 53, 3) := by decide +kernel
theorem dX9_begin_71 : decode cX9_begin 71 = .ok (.iconst 0, 1) := by decide +kernel
theorem dX9_begin_72 : decode cX9_begin 72 = .ok (.aload_n 0, 1) := by decide +kernel
theorem dX9_begin_73 : decode cX9_begin 73 = .ok (.getfield 21, 3) := by decide +kernel
theorem dX9_begin_76 : decode cX9_begin 76 = .ok (.iconst 0, 1) := by decide +kernel
theorem dX9_begin_77 : decode cX9_begin 77 = .ok (.bipush 36, 2) := by decide +kernel
theorem dX9_begin_79 : decode cX9_begin 79 = .ok (.invokestatic 45, 3) := by decide +kernel
theorem dX9_begin_82 : decode cX9_begin 82 = .ok (.aload_n 0, 1) := by decide +kernel
theorem dX9_begin_83 : decode cX9_begin 83 = .ok (.getfield 34, 3) := by decide +kernel
theorem dX9_begin_86 : decode cX9_begin 86 = .ok (.getfield 54, 3) := by decide +kernel
theorem dX9_begin_89 : decode cX9_begin 89 = .ok (.istore_n 2, 1) := by decide +kernel
theorem dX9_begin_90 : decode cX9_begin 90 = .ok (.iload_n 2, 1) := by decide +kernel
theorem dX9_begin_91 : decode cX9_begin 91 = .ok (.bipush 8, 2) := by decide +kernel
theorem dX9_begin_93 : decode cX9_begin 93 = .ok (.if_icmp .ge 15, 3) := by decide +kernel
theorem dX9_begin_96 : decode cX9_begin 96 = .ok (.aload_n 0, 1) := by decide +kernel
theorem dX9_begin_97 : decode cX9_begin 97 = .ok (.iload_n 2, 1) := by decide +kernel
theorem dX9_begin_98 : decode cX9_begin 98 = .ok (.iconst 0, 1) := by decide +kernel
theorem dX9_begin_99 : decode cX9_begin 99 = .ok (.invokevirtual 57, 3) := by decide +kernel
theorem dX9_begin_102 : decode cX9_begin 102 = .ok (.iinc 2 1, 3) := by decide +kernel
theorem dX9_begin_105 : decode cX9_begin 105 = .ok (.goto (-15), 3) := by decide +kernel
theorem dX9_begin_108 : decode cX9_begin 108 = .ok (.return_, 1) := by decide +kernel
theorem dX9_copyFrom_0 : decode cX9_copyFrom 0 = .ok (.aload_n 0, 1) := by decide +kernel
theorem dX9_copyFrom_1 : decode cX9_copyFrom 1 = .ok (.aload_n 1, 1) := by decide +kernel
theorem dX9_copyFrom_2 : decode cX9_copyFrom 2 = .ok (.getfield 34, 3) := by decide +kernel
theorem dX9_copyFrom_5 : decode cX9_copyFrom 5 = .ok (.putfield 34, 3) := by decide +kernel
theorem dX9_copyFrom_8 : decode cX9_copyFrom 8 = .ok (.aload_n 0, 1) := by decide +kernel
theorem dX9_copyFrom_9 : decode cX9_copyFrom 9 = .ok (.aload_n 1, 1) := by decide +kernel
theorem dX9_copyFrom_10 : decode cX9_copyFrom 10 = .ok (.getfield 38, 3) := by decide +kernel
theorem dX9_copyFrom_13 : decode cX9_copyFrom 13 = .ok (.putfield 38, 3) := by decide +kernel
theorem dX9_copyFrom_16 : decode cX9_copyFrom 16 = .ok (.aload_n 1, 1) := by decide +kernel
theorem dX9_copyFrom_17 : decode cX9_copyFrom 17 = .ok (.getfield 9, 3) := by decide +kernel
theorem dX9_copyFrom_20 : decode cX9_copyFrom 20 = .ok (.iconst 0, 1) := by decide +kernel
theorem dX9_copyFrom_21 : decode cX9_copyFrom 21 = .ok (.aload_n 0, 1) := by decide +kernel
theorem dX9_copyFrom_22 : decode cX9_copyFrom 22 = .ok (.getfield 9, 3) := by decide +kernel
theorem dX9_copyFrom_25 : decode cX9_copyFrom 25 = .ok (.iconst 0, 1) := by decide +kernel
theorem dX9_copyFrom_26 : decode cX9_copyFrom 26 = .ok (.bipush 8, 2) := by decide +kernel
theorem dX9_copyFrom_28 : decode cX9_copyFrom 28 = .ok (.invokestatic 45, 3) := by decide +kernel
theorem dX9_copyFrom_31 : decode cX9_copyFrom 31 = .ok (.aload_n 1, 1) := by decide +kernel
theorem dX9_copyFrom_32 : decode cX9_copyFrom 32 = .ok (.getfield 15, 3) := by decide +kernel
theorem dX9_copyFrom_35 : decode cX9_copyFrom 35 = .ok (.iconst 0, 1) := by decide +kernel
theorem dX9_copyFrom_36 : decode cX9_copyFrom 36 = .ok (.aload_n 0, 1) := by decide +kernel
theorem dX9_copyFrom_37 : decode cX9_copyFrom 37 = .ok (.getfield 15, 3) := by decide +kernel
theorem dX9_copyFrom_40 : decode cX9_copyFrom 40 = .ok (.iconst 0, 1) := by decide +kernel
theorem dX9_copyFrom_41 : decode cX9_copyFrom 41 = .ok (.bipush 8, 2) := by decide +kernel
theorem dX9_copyFrom_43 : decode cX9_copyFrom 43 = .ok (.invokestatic 45, 3) := by decide +kernel
theorem dX9_copyFrom_46 : decode cX9_copyFrom 46 = .ok (.aload_n 1, 1) := by decide +kernel
theorem dX9_copyFrom_47 : decode cX9_copyFrom 47 = .ok (.getfield 18, 3) := by decide +kernel
theorem dX9_copyFrom_50 : decode cX9_copyFrom 50 = .ok (.iconst 0, 1) := by decide +kernel
theorem dX9_copyFrom_51 : decode cX9_copyFrom 51 = .ok (.aload_n 0, 1) := by decide +kernel
theorem dX9_copyFrom_52 : decode cX9_copyFrom 52 = .ok (.getfield 18, 3) := by decide +kernel
theorem dX9_copyFrom_55 : decode cX9_copyFrom 55 = .ok (.iconst 0, 1) := by decide +kernel
theorem dX9_copyFrom_56 : decode cX9_copyFrom 56 = .ok (.bipush 8, 2) := by decide +kernel
theorem dX9_copyFrom_58 : decode cX9_copyFrom 58 = .ok (.invokestatic 45, 3) := by decide +kernel
theorem dX9_copyFrom_61 : decode cX9_copyFrom 61 = .ok (.aload_n 1, 1) := by decide +kernel
theorem dX9_copyFrom_62 : decode cX9_copyFrom 62 = .ok (.getfield 21, 3) := by decide +kernel
theorem dX9_copyFrom_65 : decode cX9_copyFrom 65 = .ok (.iconst 0, 1) := by decide +kernel
theorem dX9_copyFrom_66 : decode cX9_copyFrom 66 = .ok (.aload_n 0, 1) := by decide +kernel
theorem dX9_copyFrom_67 : decode cX9_copyFrom 67 = .ok (.getfield 21, 3) := by decide +kernel
theorem dX9_copyFrom_70 : decode cX9_copyFrom 70 = .ok (.iconst 0, 1) := by decide +kernel
theorem dX9_copyFrom_71 : decode cX9_copyFrom 71 = .ok (.bipush 36, 2) := by decide +kernel
theorem dX9_copyFrom_73 : decode cX9_copyFrom 73 = .ok (.invokestatic 45, 3) := by decide +kernel
theorem dX9_copyFrom_76 : decode cX9_copyFrom 76 = .ok (.return_, 1) := by decide +kernel
theorem dX9_writeTo_0 : decode cX9_writeTo 0 = .ok (.aload_n 1, 1) := by decide +kernel
theorem dX9_writeTo_1 : decode cX9_writeTo 1 = .ok (.iconst 0, 1) := by decide +kernel
theorem dX9_writeTo_2 : decode cX9_writeTo 2 = .ok (.aload_n 0, 1) := by decide +kernel
theorem dX9_writeTo_3 : decode cX9_writeTo 3 = .ok (.getfield 38, 3) := by decide +kernel
theorem dX9_writeTo_6 : decode cX9_writeTo 6 = .ok (.iastore, 1) := by decide +kernel
theorem dX9_writeTo_7 : decode cX9_writeTo 7 = .ok (.aload_n 0, 1) := by decide +kernel
theorem dX9_writeTo_8 : decode cX9_writeTo 8 = .ok (.getfield 9, 3) := by decide +kernel
theorem dX9_writeTo_11 : decode cX9_writeTo 11 = .ok (.iconst 0, 1) := by decide +kernel
theorem dX9_writeTo_12 : decode cX9_writeTo 12 = .ok (.aload_n 1, 1) := by decide +kernel
theorem dX9_writeTo_13 : decode cX9_writeTo 13 = .ok (.iconst 1, 1) := by decide +kernel
theorem dX9_writeTo_14 : decode cX9_writeTo 14 = .ok (.bipush 8, 2) := by decide +kernel
theorem dX9_writeTo_16 : decode cX9_writeTo 16 = .ok (.invokestatic 45, 3) := by decide +kernel
theorem dX9_writeTo_19 : decode cX9_writeTo 19 = .ok (.aload_n 0, 1) := by decide +kernel
theorem dX9_writeTo_20 : decode cX9_writeTo 20 = .ok (.getfield 15, 3) := by decide +kernel
theorem dX9_writeTo_23 : decode cX9_writeTo 23 = .ok (.iconst 0, 1) := by decide +kernel
theorem dX9_writeTo_24 : decode cX9_writeTo 24 = .ok (.aload_n 1, 1) := by decide +kernel
theorem dX9_writeTo_25 : decode cX9_writeTo 25 = .ok (.bipush 9, 2) := by decide +kernel
theorem dX9_writeTo_27 : decode cX9_writeTo 27 = .ok (.bipush 8, 2) := by decide +kernel
theorem dX9_writeTo_29 : decode cX9_writeTo 29 = .ok (.invokestatic 45, 3) := by decide +kernel
theorem dX9_writeTo_32 : decode cX9_writeTo 32 = .ok (.aload_n 0, 1) := by decide +kernel
theorem dX9_writeTo_33 : decode cX9_writeTo 33 = .ok (.getfield 18, 3) := by decide +kernel
theorem dX9_writeTo_36 : decode cX9_writeTo 36 = .ok (.iconst 0, 1) := by decide +kernel
theorem dX9_writeTo_37 : decode cX9_writeTo 37 = .ok (.aload_n 1, 1) := by decide +kernel
theorem dX9_writeTo_38 : decode cX9_writeTo 38 = .ok (.bipush 17, 2) := by decide +kernel
theorem dX9_writeTo_40 : decode cX9_writeTo 40 = .ok (.bipush 8, 2) := by decide +kernel
theorem dX9_writeTo_42 : decode cX9_writeTo 42 = .ok (.invokestatic 45, 3) := by decide +kernel
theorem dX9_writeTo_45 : decode cX9_writeTo 45 = .ok (.aload_n 0, 1) := by decide +kernel
theorem dX9_writeTo_46 : decode cX9_writeTo 46 = .ok (.getfield 21, 3) := by decide +kernel
theorem dX9_writeTo_49 : decode cX9_writeTo 49 = .ok (.iconst 0, 1) := by decide +kernel
theorem dX9_writeTo_50 : decode cX9_writeTo 50 = .ok (.aload_n 1, 1) := by decide +kernel
theorem dX9_writeTo_51 : decode cX9_writeTo 51 = .ok (.bipush 25, 2) := by decide +kernel
theorem dX9_writeTo_53 : decode cX9_writeTo 53 = .ok (.bipush 36, 2) := by decide +kernel
theorem dX9_writeTo_55 : decode cX9_writeTo 55 = .ok (.invokestatic 45, 3) := by decide +kernel
theorem dX9_writeTo_58 : decode cX9_writeTo 58 = .ok (.return_, 1) := by decide +kernel
theorem dX9_readFrom_0 : decode cX9_readFrom 0 = .ok (.aload_n 0, 1) := by decide +kernel
theorem dX9_readFrom_1 : decode cX9_readFrom 1 = .ok (.aload_n 1, 1) := by decide +kernel
theorem dX9_readFrom_2 : decode cX9_readFrom 2 = .ok (.iconst 0, 1) := by decide +kernel
theorem dX9_readFrom_3 : decode cX9_readFrom 3 = .ok (.iaload, 1) := by decide +kernel
theorem dX9_readFrom_4 : decode cX9_readFrom 4 = .ok (.putfield 38, 3) := by decide +kernel
theorem dX9_readFrom_7 : decode cX9_readFrom 7 = .ok (.aload_n 1, 1) := by decide +kernel
theorem dX9_readFrom_8 : decode cX9_readFrom 8 = .ok (.iconst 1, 1) := by decide +kernel
theorem dX9_readFrom_9 : decode cX9_readFrom 9 = .ok (.aload_n 0, 1) := by decide +kernel
theorem dX9_readFrom_10 : decode cX9_readFrom 10 = .ok (.getfield 9, 3) := by decide +kernel
theorem dX9_readFrom_13 : decode cX9_readFrom 13 = .ok (.iconst 0, 1) := by decide +kernel
theorem dX9_readFrom_14 : decode cX9_readFrom 14 = .ok (.bipush 8, 2) := by decide +kernel
theorem dX9_readFrom_16 : decode cX9_readFrom 16 = .ok (.invokestatic 45, 3) := by decide +kernel
theorem dX9_readFrom_19 : decode cX9_readFrom 19 = .ok (.aload_n 1, 1) := by decide +kernel
theorem dX9_readFrom_20 : decode cX9_readFrom 20 = .ok (.bipush 9, 2) := by decide +kernel
theorem dX9_readFrom_22 : decode cX9_readFrom 22 = .ok (.aload_n 0, 1) := by decide +kernel
theorem dX9_readFrom_23 : decode cX9_readFrom 23 = .ok (.getfield 15, 3) := by decide +kernel
theorem dX9_readFrom_26 : decode cX9_readFrom 26 = .ok (.iconst 0, 1) := by decide +kernel
theorem dX9_readFrom_27 : decode cX9_readFrom 27 = .ok (.bipush 8, 2) := by decide +kernel
theorem dX9_readFrom_29 : decode cX9_readFrom 29 = .ok (.invokestatic 45, 3) := by decide +kernel
theorem dX9_readFrom_32 : decode cX9_readFrom 32 = .ok (.aload_n 1, 1) := by decide +kernel
theorem dX9_readFrom_33 : decode cX9_readFrom 33 = .ok (.bipush 17, 2) := by decide +kernel
theorem dX9_readFrom_35 : decode cX9_readFrom 35 = .ok (.aload_n 0, 1) := by decide +kernel
theorem dX9_readFrom_36 : decode cX9_readFrom 36 = .ok (.getfield 18, 3) := by decide +kernel
theorem dX9_readFrom_39 : decode cX9_readFrom 39 = .ok (.iconst 0, 1) := by decide +kernel
theorem dX9_readFrom_40 : decode cX9_readFrom 40 = .ok (.bipush 8, 2) := by decide +kernel
theorem dX9_readFrom_42 : decode cX9_readFrom 42 = .ok (.invokestatic 45, 3) := by decide +kernel
theorem dX9_readFrom_45 : decode cX9_readFrom 45 = .ok (.aload_n 1, 1) := by decide +kernel
theorem dX9_readFrom_46 : decode cX9_readFrom 46 = .ok (.bipush 25, 2) := by decide +kernel
theorem dX9_readFrom_48 : decode cX9_readFrom 48 = .ok (.aload_n 0, 1) := by decide +kernel
theorem dX9_readFrom_49 : decode cX9_readFrom 49 = .ok (.getfield 21, 3) := by decide +kernel
theorem dX9_readFrom_52 : decode cX9_readFrom 52 = .ok (.iconst 0, 1) := by decide +kernel
theorem dX9_readFrom_53 : decode cX9_readFrom 53 = .ok (.bipush 36, 2) := by decide +kernel
theorem dX9_readFrom_55 : decode cX9_readFrom 55 = .ok (.invokestatic 45, 3) := by decide +kernel
theorem dX9_readFrom_58 : decode cX9_readFrom 58 = .ok (.return_, 1) := by decide +kernel
theorem dX9_isHollow_0 : decode cX9_isHollow 0 = .ok (.iload_n 1, 1) := by decide +kernel
theorem dX9_isHollow_1 : decode cX9_isHollow 1 = .ok (.ifCond .lt 18, 3) := by decide +kernel
theorem dX9_isHollow_4 : decode cX9_isHollow 4 = .ok (.iload_n 1, 1) := by decide +kernel
theorem dX9_isHollow_5 : decode cX9_isHollow 5 = .ok (.aload_n 0, 1) := by decide +kernel
theorem dX9_isHollow_6 : decode cX9_isHollow 6 = .ok (.getfield 34, 3) := by decide +kernel
theorem dX9_isHollow_9 : decode cX9_isHollow 9 = .ok (.getfield 61, 3) := by decide +kernel
theorem dX9_isHollow_12 : decode cX9_isHollow 12 = .ok (.if_icmp .ge 7, 3) := by decide +kernel
theorem dX9_isHollow_15 : decode cX9_isHollow 15 = .ok (.iconst 1, 1) := by decide +kernel
theorem dX9_isHollow_16 : decode cX9_isHollow 16 = .ok (.goto 4, 3) := by decide +kernel
theorem dX9_isHollow_19 : decode cX9_isHollow 19 = .ok (.iconst 0, 1) := by decide +kernel
theorem dX9_isHollow_20 : decode cX9_isHollow 20 = .ok (.ireturn, 1) := by decide +kernel
theorem dX9_isOwner_0 : decode cX9_isOwner 0 = .ok (.iload_n 1, 1) := by decide +kernel
theorem dX9_isOwner_1 : decode cX9_isOwner 1 = .ok (.ifCond .lt 18, 3) := by decide +kernel
theorem dX9_isOwner_4 : decode cX9_isOwner 4 = .ok (.iload_n 1, 1) := by decide +kernel
theorem dX9_isOwner_5 : decode cX9_isOwner 5 = .ok (.aload_n 0, 1) := by decide +kernel
theorem dX9_isOwner_6 : decode cX9_isOwner 6 = .ok (.getfield 34, 3) := by decide +kernel
theorem dX9_isOwner_9 : decode cX9_isOwner 9 = .ok (.getfield 64, 3) := by decide +kernel
theorem dX9_isOwner_12 : decode cX9_isOwner 12 = .ok (.if_icmp .ge 7, 3) := by decide +kernel
theorem dX9_isOwner_15 : decode cX9_isOwner 15 = .ok (.iconst 1, 1) := by decide +kernel
theorem dX9_isOwner_16 : decode cX9_isOwner 16 = .ok (.goto 4, 3) := by decide +kernel
theorem dX9_isOwner_19 : decode cX9_isOwner 19 = .ok (.iconst 0, 1) := by decide +kernel
theorem dX9_isOwner_20 : decode cX9_isOwner 20 = .ok (.ireturn, 1) := by decide +kernel
theorem dX9_isLake_0 : decode cX9_isLake 0 = .ok (.iload_n 1, 1) := by decide +kernel
theorem dX9_isLake_1 : decode cX9_isLake 1 = .ok (.ifCond .lt 18, 3) := by decide +kernel
theorem dX9_isLake_4 : decode cX9_isLake 4 = .ok (.iload_n 1, 1) := by decide +kernel
theorem dX9_isLake_5 : decode cX9_isLake 5 = .ok (.aload_n 0, 1) := by decide +kernel
theorem dX9_isLake_6 : decode cX9_isLake 6 = .ok (.getfield 34, 3) := by decide +kernel
theorem dX9_isLake_9 : decode cX9_isLake 9 = .ok (.getfield 54, 3) := by decide +kernel
theorem dX9_isLake_12 : decode cX9_isLake 12 = .ok (.if_icmp .ge 7, 3) := by decide +kernel
theorem dX9_isLake_15 : decode cX9_isLake 15 = .ok (.iconst 1, 1) := by decide +kernel
theorem dX9_isLake_16 : decode cX9_isLake 16 = .ok (.goto 4, 3) := by decide +kernel
theorem dX9_isLake_19 : decode cX9_isLake 19 = .ok (.iconst 0, 1) := by decide +kernel
theorem dX9_isLake_20 : decode cX9_isLake 20 = .ok (.ireturn, 1) := by decide +kernel
theorem dX9_areTwoOwners_0 : decode cX9_areTwoOwners 0 = .ok (.aload_n 0, 1) := by decide +kernel
theorem dX9_areTwoOwners_1 : decode cX9_areTwoOwners 1 = .ok (.iload_n 1, 1) := by decide +kernel
theorem dX9_areTwoOwners_2 : decode cX9_areTwoOwners 2 = .ok (.invokevirtual 67, 3) := by decide +kernel
theorem dX9_areTwoOwners_5 : decode cX9_areTwoOwners 5 = .ok (.ifCond .eq 20, 3) := by decide +kernel
theorem dX9_areTwoOwners_8 : decode cX9_areTwoOwners 8 = .ok (.aload_n 0, 1) := by decide +kernel
theorem dX9_areTwoOwners_9 : decode cX9_areTwoOwners 9 = .ok (.iload_n 2, 1) := by decide +kernel
theorem dX9_areTwoOwners_10 : decode cX9_areTwoOwners 10 = .ok (.invokevirtual 67, 3) := by decide +kernel
theorem dX9_areTwoOwners_13 : decode cX9_areTwoOwners 13 = .ok (.ifCond .eq 12, 3) := by decide +kernel
theorem dX9_areTwoOwners_16 : decode cX9_areTwoOwners 16 = .ok (.iload_n 1, 1) := by decide +kernel
theorem dX9_areTwoOwners_17 : decode cX9_areTwoOwners 17 = .ok (.iload_n 2, 1) := by decide +kernel
theorem dX9_areTwoOwners_18 : decode cX9_areTwoOwners 18 = .ok (.if_icmp .eq 7, 3) := by decide +kernel
theorem dX9_areTwoOwners_21 : decode cX9_areTwoOwners 21 = .ok (.iconst 1, 1) := by decide +kernel
theorem dX9_areTwoOwners_22 : decode cX9_areTwoOwners 22 = .ok (.goto 4, 3) := by decide +kernel
theorem dX9_areTwoOwners_25 : decode cX9_areTwoOwners 25 = .ok (.iconst 0, 1) := by decide +kernel
theorem dX9_areTwoOwners_26 : decode cX9_areTwoOwners 26 = .ok (.ireturn, 1) := by decide +kernel
theorem dX9_stands_0 : decode cX9_stands 0 = .ok (.aload_n 0, 1) := by decide +kernel
theorem dX9_stands_1 : decode cX9_stands 1 = .ok (.iload_n 1, 1) := by decide +kernel
theorem dX9_stands_2 : decode cX9_stands 2 = .ok (.invokevirtual 71, 3) := by decide +kernel
theorem dX9_stands_5 : decode cX9_stands 5 = .ok (.ifCond .eq 16, 3) := by decide +kernel
theorem dX9_stands_8 : decode cX9_stands 8 = .ok (.aload_n 0, 1) := by decide +kernel
theorem dX9_stands_9 : decode cX9_stands 9 = .ok (.getfield 9, 3) := by decide +kernel
theorem dX9_stands_12 : decode cX9_stands 12 = .ok (.iload_n 1, 1) := by decide +kernel
theorem dX9_stands_13 : decode cX9_stands 13 = .ok (.iaload, 1) := by decide +kernel
theorem dX9_stands_14 : decode cX9_stands 14 = .ok (.ifCond .le 7, 3) := by decide +kernel
theorem dX9_stands_17 : decode cX9_stands 17 = .ok (.iconst 1, 1) := by decide +kernel
theorem dX9_stands_18 : decode cX9_stands 18 = .ok (.goto 4, 3) := by decide +kernel
theorem dX9_stands_21 : decode cX9_stands 21 = .ok (.iconst 0, 1) := by decide +kernel
theorem dX9_stands_22 : decode cX9_stands 22 = .ok (.ireturn, 1) := by decide +kernel
theorem dX9_setBarrels_0 : decode cX9_setBarrels 0 = .ok (.aload_n 0, 1) := by decide +kernel
theorem dX9_setBarrels_1 : decode cX9_setBarrels 1 = .ok (.getfield 9, 3) := by decide +kernel
theorem dX9_setBarrels_4 : decode cX9_setBarrels 4 = .ok (.iload_n 1, 1) := by decide +kernel
theorem dX9_setBarrels_5 : decode cX9_setBarrels 5 = .ok (.iload_n 2, 1) := by decide +kernel
theorem dX9_setBarrels_6 : decode cX9_setBarrels 6 = .ok (.iastore, 1) := by decide +kernel
theorem dX9_setBarrels_7 : decode cX9_setBarrels 7 = .ok (.iload_n 2, 1) := by decide +kernel
theorem dX9_setBarrels_8 : decode cX9_setBarrels 8 = .ok (.ifCond .gt 17, 3) := by decide +kernel
theorem dX9_setBarrels_11 : decode cX9_setBarrels 11 = .ok (.aload_n 0, 1) := by decide +kernel
theorem dX9_setBarrels_12 : decode cX9_setBarrels 12 = .ok (.getfield 15, 3) := by decide +kernel
theorem dX9_setBarrels_15 : decode cX9_setBarrels 15 = .ok (.iload_n 1, 1) := by decide +kernel
theorem dX9_setBarrels_16 : decode cX9_setBarrels 16 = .ok (.iconst (-1), 1) := by decide +kernel
theorem dX9_setBarrels_17 : decode cX9_setBarrels 17 = .ok (.iastore, 1) := by decide +kernel
theorem dX9_setBarrels_18 : decode cX9_setBarrels 18 = .ok (.aload_n 0, 1) := by decide +kernel
theorem dX9_setBarrels_19 : decode cX9_setBarrels 19 = .ok (.getfield 18, 3) := by decide +kernel
theorem dX9_setBarrels_22 : decode cX9_setBarrels 22 = .ok (.iload_n 1, 1) := by decide +kernel
theorem dX9_setBarrels_23 : decode cX9_setBarrels 23 = .ok (.iconst (-1), 1) := by decide +kernel
theorem dX9_setBarrels_24 : decode cX9_setBarrels 24 = .ok (.iastore, 1) := by decide +kernel
theorem dX9_setBarrels_25 : decode cX9_setBarrels 25 = .ok (.return_, 1) := by decide +kernel
theorem dX9_standing_0 : decode cX9_standing 0 = .ok (.iconst 0, 1) := by decide +kernel
theorem dX9_standing_1 : decode cX9_standing 1 = .ok (.istore_n 1, 1) := by decide +kernel
theorem dX9_standing_2 : decode cX9_standing 2 = .ok (.iconst 0, 1) := by decide +kernel
theorem dX9_standing_3 : decode cX9_standing 3 = .ok (.istore_n 2, 1) := by decide +kernel
theorem dX9_standing_4 : decode cX9_standing 4 = .ok (.iload_n 2, 1) := by decide +kernel
theorem dX9_standing_5 : decode cX9_standing 5 = .ok (.aload_n 0, 1) := by decide +kernel
theorem dX9_standing_6 : decode cX9_standing 6 = .ok (.getfield 34, 3) := by decide +kernel
theorem dX9_standing_9 : decode cX9_standing 9 = .ok (.getfield 54, 3) := by decide +kernel
theorem dX9_standing_12 : decode cX9_standing 12 = .ok (.if_icmp .ge 26, 3) := by decide +kernel
theorem dX9_standing_15 : decode cX9_standing 15 = .ok (.iload_n 1, 1) := by decide +kernel
theorem dX9_standing_16 : decode cX9_standing 16 = .ok (.aload_n 0, 1) := by decide +kernel
theorem dX9_standing_17 : decode cX9_standing 17 = .ok (.getfield 9, 3) := by decide +kernel
theorem dX9_standing_20 : decode cX9_standing 20 = .ok (.iload_n 2, 1) := by decide +kernel
theorem dX9_standing_21 : decode cX9_standing 21 = .ok (.iaload, 1) := by decide +kernel
theorem dX9_standing_22 : decode cX9_standing 22 = .ok (.ifCond .le 7, 3) := by decide +kernel
theorem dX9_standing_25 : decode cX9_standing 25 = .ok (.iconst 1, 1) := by decide +kernel
theorem dX9_standing_26 : decode cX9_standing 26 = .ok (.goto 4, 3) := by decide +kernel
theorem dX9_standing_29 : decode cX9_standing 29 = .ok (.iconst 0, 1) := by decide +kernel
theorem dX9_standing_30 : decode cX9_standing 30 = .ok (.iadd, 1) := by decide +kernel
theorem dX9_standing_31 : decode cX9_standing 31 = .ok (.istore_n 1, 1) := by decide +kernel
theorem dX9_standing_32 : decode cX9_standing 32 = .ok (.iinc 2 1, 3) := by decide +kernel
theorem dX9_standing_35 : decode cX9_standing 35 = .ok (.goto (-31), 3) := by decide +kernel
theorem dX9_standing_38 : decode cX9_standing 38 = .ok (.iload_n 1, 1) := by decide +kernel
theorem dX9_standing_39 : decode cX9_standing 39 = .ok (.ireturn, 1) := by decide +kernel
theorem dX9_firstGone_0 : decode cX9_firstGone 0 = .ok (.iconst 0, 1) := by decide +kernel
theorem dX9_firstGone_1 : decode cX9_firstGone 1 = .ok (.istore_n 1, 1) := by decide +kernel
theorem dX9_firstGone_2 : decode cX9_firstGone 2 = .ok (.iload_n 1, 1) := by decide +kernel
theorem dX9_firstGone_3 : decode cX9_firstGone 3 = .ok (.aload_n 0, 1) := by decide +kernel
theorem dX9_firstGone_4 : decode cX9_firstGone 4 = .ok (.getfield 34, 3) := by decide +kernel
theorem dX9_firstGone_7 : decode cX9_firstGone 7 = .ok (.getfield 54, 3) := by decide +kernel
theorem dX9_firstGone_10 : decode cX9_firstGone 10 = .ok (.if_icmp .ge 20, 3) := by decide +kernel
theorem dX9_firstGone_13 : decode cX9_firstGone 13 = .ok (.aload_n 0, 1) := by decide +kernel
theorem dX9_firstGone_14 : decode cX9_firstGone 14 = .ok (.getfield 9, 3) := by decide +kernel
theorem dX9_firstGone_17 : decode cX9_firstGone 17 = .ok (.iload_n 1, 1) := by decide +kernel
theorem dX9_firstGone_18 : decode cX9_firstGone 18 = .ok (.iaload, 1) := by decide +kernel
theorem dX9_firstGone_19 : decode cX9_firstGone 19 = .ok (.ifCond .ne 5, 3) := by decide +kernel
theorem dX9_firstGone_22 : decode cX9_firstGone 22 = .ok (.iload_n 1, 1) := by decide +kernel
theorem dX9_firstGone_23 : decode cX9_firstGone 23 = .ok (.ireturn, 1) := by decide +kernel
theorem dX9_firstGone_24 : decode cX9_firstGone 24 = .ok (.iinc 1 1, 3) := by decide +kernel
theorem dX9_firstGone_27 : decode cX9_firstGone 27 = .ok (.goto (-25), 3) := by decide +kernel
theorem dX9_firstGone_30 : decode cX9_firstGone 30 = .ok (.iconst (-1), 1) := by decide +kernel
theorem dX9_firstGone_31 : decode cX9_firstGone 31 = .ok (.ireturn, 1) := by decide +kernel
theorem dX9_allBarrels_0 : decode cX9_allBarrels 0 = .ok (.iconst 0, 1) := by decide +kernel
theorem dX9_allBarrels_1 : decode cX9_allBarrels 1 = .ok (.istore_n 1, 1) := by decide +kernel
theorem dX9_allBarrels_2 : decode cX9_allBarrels 2 = .ok (.iconst 0, 1) := by decide +kernel
theorem dX9_allBarrels_3 : decode cX9_allBarrels 3 = .ok (.istore_n 2, 1) := by decide +kernel
theorem dX9_allBarrels_4 : decode cX9_allBarrels 4 = .ok (.iload_n 2, 1) := by decide +kernel
theorem dX9_allBarrels_5 : decode cX9_allBarrels 5 = .ok (.aload_n 0, 1) := by decide +kernel
theorem dX9_allBarrels_6 : decode cX9_allBarrels 6 = .ok (.getfield 34, 3) := by decide +kernel
theorem dX9_allBarrels_9 : decode cX9_allBarrels 9 = .ok (.getfield 54, 3) := by decide +kernel
theorem dX9_allBarrels_12 : decode cX9_allBarrels 12 = .ok (.if_icmp .ge 18, 3) := by decide +kernel
theorem dX9_allBarrels_15 : decode cX9_allBarrels 15 = .ok (.iload_n 1, 1) := by decide +kernel
theorem dX9_allBarrels_16 : decode cX9_allBarrels 16 = .ok (.aload_n 0, 1) := by decide +kernel
theorem dX9_allBarrels_17 : decode cX9_allBarrels 17 = .ok (.getfield 9, 3) := by decide +kernel
theorem dX9_allBarrels_20 : decode cX9_allBarrels 20 = .ok (.iload_n 2, 1) := by decide +kernel
theorem dX9_allBarrels_21 : decode cX9_allBarrels 21 = .ok (.iaload, 1) := by decide +kernel
theorem dX9_allBarrels_22 : decode cX9_allBarrels 22 = .ok (.iadd, 1) := by decide +kernel
theorem dX9_allBarrels_23 : decode cX9_allBarrels 23 = .ok (.istore_n 1, 1) := by decide +kernel
theorem dX9_allBarrels_24 : decode cX9_allBarrels 24 = .ok (.iinc 2 1, 3) := by decide +kernel
theorem dX9_allBarrels_27 : decode cX9_allBarrels 27 = .ok (.goto (-23), 3) := by decide +kernel
theorem dX9_allBarrels_30 : decode cX9_allBarrels 30 = .ok (.iload_n 1, 1) := by decide +kernel
theorem dX9_allBarrels_31 : decode cX9_allBarrels 31 = .ok (.ireturn, 1) := by decide +kernel
theorem dX9_lakesIn_0 : decode cX9_lakesIn 0 = .ok (.iconst 0, 1) := by decide +kernel
theorem dX9_lakesIn_1 : decode cX9_lakesIn 1 = .ok (.istore_n 2, 1) := by decide +kernel
theorem dX9_lakesIn_2 : decode cX9_lakesIn 2 = .ok (.iconst 0, 1) := by decide +kernel
theorem dX9_lakesIn_3 : decode cX9_lakesIn 3 = .ok (.istore_n 3, 1) := by decide +kernel
theorem dX9_lakesIn_4 : decode cX9_lakesIn 4 = .ok (.iload_n 3, 1) := by decide +kernel
theorem dX9_lakesIn_5 : decode cX9_lakesIn 5 = .ok (.aload_n 0, 1) := by decide +kernel
theorem dX9_lakesIn_6 : decode cX9_lakesIn 6 = .ok (.getfield 34, 3) := by decide +kernel
theorem dX9_lakesIn_9 : decode cX9_lakesIn 9 = .ok (.getfield 54, 3) := by decide +kernel
theorem dX9_lakesIn_12 : decode cX9_lakesIn 12 = .ok (.if_icmp .ge 25, 3) := by decide +kernel
theorem dX9_lakesIn_15 : decode cX9_lakesIn 15 = .ok (.aload_n 0, 1) := by decide +kernel
theorem dX9_lakesIn_16 : decode cX9_lakesIn 16 = .ok (.getfield 15, 3) := by decide +kernel
theorem dX9_lakesIn_19 : decode cX9_lakesIn 19 = .ok (.iload_n 3, 1) := by decide +kernel
theorem dX9_lakesIn_20 : decode cX9_lakesIn 20 = .ok (.iaload, 1) := by decide +kernel
theorem dX9_lakesIn_21 : decode cX9_lakesIn 21 = .ok (.iload_n 1, 1) := by decide +kernel
theorem dX9_lakesIn_22 : decode cX9_lakesIn 22 = .ok (.if_icmp .ne 9, 3) := by decide +kernel
theorem dX9_lakesIn_25 : decode cX9_lakesIn 25 = .ok (.iload_n 2, 1) := by decide +kernel
theorem dX9_lakesIn_26 : decode cX9_lakesIn 26 = .ok (.iconst 1, 1) := by decide +kernel
theorem dX9_lakesIn_27 : decode cX9_lakesIn 27 = .ok (.iload_n 3, 1) := by decide +kernel
theorem dX9_lakesIn_28 : decode cX9_lakesIn 28 = .ok (.ishl, 1) := by decide +kernel
theorem dX9_lakesIn_29 : decode cX9_lakesIn 29 = .ok (.ior, 1) := by decide +kernel
theorem dX9_lakesIn_30 : decode cX9_lakesIn 30 = .ok (.istore_n 2, 1) := by decide +kernel
theorem dX9_lakesIn_31 : decode cX9_lakesIn 31 = .ok (.iinc 3 1, 3) := by decide +kernel
theorem dX9_lakesIn_34 : decode cX9_lakesIn 34 = .ok (.goto (-30), 3) := by decide +kernel
theorem dX9_lakesIn_37 : decode cX9_lakesIn 37 = .ok (.iload_n 2, 1) := by decide +kernel
theorem dX9_lakesIn_38 : decode cX9_lakesIn 38 = .ok (.ireturn, 1) := by decide +kernel
theorem dX9_roomIn_0 : decode cX9_roomIn 0 = .ok (.aload_n 0, 1) := by decide +kernel
theorem dX9_roomIn_1 : decode cX9_roomIn 1 = .ok (.getfield 34, 3) := by decide +kernel
theorem dX9_roomIn_4 : decode cX9_roomIn 4 = .ok (.getfield 74, 3) := by decide +kernel
theorem dX9_roomIn_7 : decode cX9_roomIn 7 = .ok (.iload_n 1, 1) := by decide +kernel
theorem dX9_roomIn_8 : decode cX9_roomIn 8 = .ok (.iaload, 1) := by decide +kernel
theorem dX9_roomIn_9 : decode cX9_roomIn 9 = .ok (.istore_n 2, 1) := by decide +kernel
theorem dX9_roomIn_10 : decode cX9_roomIn 10 = .ok (.iconst 0, 1) := by decide +kernel
theorem dX9_roomIn_11 : decode cX9_roomIn 11 = .ok (.istore_n 3, 1) := by decide +kernel
theorem dX9_roomIn_12 : decode cX9_roomIn 12 = .ok (.iload_n 3, 1) := by decide +kernel
theorem dX9_roomIn_13 : decode cX9_roomIn 13 = .ok (.aload_n 0, 1) := by decide +kernel
theorem dX9_roomIn_14 : decode cX9_roomIn 14 = .ok (.getfield 34, 3) := by decide +kernel
theorem dX9_roomIn_17 : decode cX9_roomIn 17 = .ok (.getfield 54, 3) := by decide +kernel
theorem dX9_roomIn_20 : decode cX9_roomIn 20 = .ok (.if_icmp .ge 28, 3) := by decide +kernel
theorem dX9_roomIn_23 : decode cX9_roomIn 23 = .ok (.aload_n 0, 1) := by decide +kernel
theorem dX9_roomIn_24 : decode cX9_roomIn 24 = .ok (.getfield 15, 3) := by decide +kernel
theorem dX9_roomIn_27 : decode cX9_roomIn 27 = .ok (.iload_n 3, 1) := by decide +kernel
theorem dX9_roomIn_28 : decode cX9_roomIn 28 = .ok (.iaload, 1) := by decide +kernel
theorem dX9_roomIn_29 : decode cX9_roomIn 29 = .ok (.iload_n 1, 1) := by decide +kernel
theorem dX9_roomIn_30 : decode cX9_roomIn 30 = .ok (.if_icmp .ne 12, 3) := by decide +kernel
theorem dX9_roomIn_33 : decode cX9_roomIn 33 = .ok (.iload_n 2, 1) := by decide +kernel
theorem dX9_roomIn_34 : decode cX9_roomIn 34 = .ok (.aload_n 0, 1) := by decide +kernel
theorem dX9_roomIn_35 : decode cX9_roomIn 35 = .ok (.getfield 9, 3) := by decide +kernel
theorem dX9_roomIn_38 : decode cX9_roomIn 38 = .ok (.iload_n 3, 1) := by decide +kernel
theorem dX9_roomIn_39 : decode cX9_roomIn 39 = .ok (.iaload, 1) := by decide +kernel
theorem dX9_roomIn_40 : decode cX9_roomIn 40 = .ok (.isub, 1) := by decide +kernel
theorem dX9_roomIn_41 : decode cX9_roomIn 41 = .ok (.istore_n 2, 1) := by decide +kernel
theorem dX9_roomIn_42 : decode cX9_roomIn 42 = .ok (.iinc 3 1, 3) := by decide +kernel
theorem dX9_roomIn_45 : decode cX9_roomIn 45 = .ok (.goto (-33), 3) := by decide +kernel
theorem dX9_roomIn_48 : decode cX9_roomIn 48 = .ok (.iload_n 2, 1) := by decide +kernel
theorem dX9_roomIn_49 : decode cX9_roomIn 49 = .ok (.ireturn, 1) := by decide +kernel
theorem dX9_countIn_0 : decode cX9_countIn 0 = .ok (.iconst 0, 1) := by decide +kernel
theorem dX9_countIn_1 : decode cX9_countIn 1 = .ok (.istore_n 2, 1) := by decide +kernel
theorem dX9_countIn_2 : decode cX9_countIn 2 = .ok (.iconst 0, 1) := by decide +kernel
theorem dX9_countIn_3 : decode cX9_countIn 3 = .ok (.istore_n 3, 1) := by decide +kernel
theorem dX9_countIn_4 : decode cX9_countIn 4 = .ok (.iload_n 3, 1) := by decide +kernel
theorem dX9_countIn_5 : decode cX9_countIn 5 = .ok (.aload_n 0, 1) := by decide +kernel
theorem dX9_countIn_6 : decode cX9_countIn 6 = .ok (.getfield 34, 3) := by decide +kernel
theorem dX9_countIn_9 : decode cX9_countIn 9 = .ok (.getfield 54, 3) := by decide +kernel
theorem dX9_countIn_12 : decode cX9_countIn 12 = .ok (.if_icmp .ge 22, 3) := by decide +kernel
theorem dX9_countIn_15 : decode cX9_countIn 15 = .ok (.aload_n 0, 1) := by decide +kernel
theorem dX9_countIn_16 : decode cX9_countIn 16 = .ok (.getfield 15, 3) := by decide +kernel
theorem dX9_countIn_19 : decode cX9_countIn 19 = .ok (.iload_n 3, 1) := by decide +kernel
theorem dX9_countIn_20 : decode cX9_countIn 20 = .ok (.iaload, 1) := by decide +kernel
theorem dX9_countIn_21 : decode cX9_countIn 21 = .ok (.iload_n 1, 1) := by decide +kernel
theorem dX9_countIn_22 : decode cX9_countIn 22 = .ok (.if_icmp .ne 6, 3) := by decide +kernel
theorem dX9_countIn_25 : decode cX9_countIn 25 = .ok (.iinc 2 1, 3) := by decide +kernel
theorem dX9_countIn_28 : decode cX9_countIn 28 = .ok (.iinc 3 1, 3) := by decide +kernel
theorem dX9_countIn_31 : decode cX9_countIn 31 = .ok (.goto (-27), 3) := by decide +kernel
theorem dX9_countIn_34 : decode cX9_countIn 34 = .ok (.iload_n 2, 1) := by decide +kernel
theorem dX9_countIn_35 : decode cX9_countIn 35 = .ok (.ireturn, 1) := by decide +kernel
theorem dX9_lakesOf_0 : decode cX9_lakesOf 0 = .ok (.iconst 0, 1) := by decide +kernel
theorem dX9_lakesOf_1 : decode cX9_lakesOf 1 = .ok (.istore_n 2, 1) := by decide +kernel
theorem dX9_lakesOf_2 : decode cX9_lakesOf 2 = .ok (.iconst 0, 1) := by decide +kernel
theorem dX9_lakesOf_3 : decode cX9_lakesOf 3 = .ok (.istore_n 3, 1) := by decide +kernel
theorem dX9_lakesOf_4 : decode cX9_lakesOf 4 = .ok (.iload_n 3, 1) := by decide +kernel
theorem dX9_lakesOf_5 : decode cX9_lakesOf 5 = .ok (.aload_n 0, 1) := by decide +kernel
theorem dX9_lakesOf_6 : decode cX9_lakesOf 6 = .ok (.getfield 34, 3) := by decide +kernel
theorem dX9_lakesOf_9 : decode cX9_lakesOf 9 = .ok (.getfield 54, 3) := by decide +kernel
theorem dX9_lakesOf_12 : decode cX9_lakesOf 12 = .ok (.if_icmp .ge 25, 3) := by decide +kernel
theorem dX9_lakesOf_15 : decode cX9_lakesOf 15 = .ok (.aload_n 0, 1) := by decide +kernel
theorem dX9_lakesOf_16 : decode cX9_lakesOf 16 = .ok (.getfield 18, 3) := by decide +kernel
theorem dX9_lakesOf_19 : decode cX9_lakesOf 19 = .ok (.iload_n 3, 1) := by decide +kernel
theorem dX9_lakesOf_20 : decode cX9_lakesOf 20 = .ok (.iaload, 1) := by decide +kernel
theorem dX9_lakesOf_21 : decode cX9_lakesOf 21 = .ok (.iload_n 1, 1) := by decide +kernel
theorem dX9_lakesOf_22 : decode cX9_lakesOf 22 = .ok (.if_icmp .ne 9, 3) := by decide +kernel
theorem dX9_lakesOf_25 : decode cX9_lakesOf 25 = .ok (.iload_n 2, 1) := by decide +kernel
theorem dX9_lakesOf_26 : decode cX9_lakesOf 26 = .ok (.iconst 1, 1) := by decide +kernel
theorem dX9_lakesOf_27 : decode cX9_lakesOf 27 = .ok (.iload_n 3, 1) := by decide +kernel
theorem dX9_lakesOf_28 : decode cX9_lakesOf 28 = .ok (.ishl, 1) := by decide +kernel
theorem dX9_lakesOf_29 : decode cX9_lakesOf 29 = .ok (.ior, 1) := by decide +kernel
theorem dX9_lakesOf_30 : decode cX9_lakesOf 30 = .ok (.istore_n 2, 1) := by decide +kernel
theorem dX9_lakesOf_31 : decode cX9_lakesOf 31 = .ok (.iinc 3 1, 3) := by decide +kernel
theorem dX9_lakesOf_34 : decode cX9_lakesOf 34 = .ok (.goto (-30), 3) := by decide +kernel
theorem dX9_lakesOf_37 : decode cX9_lakesOf 37 = .ok (.iload_n 2, 1) := by decide +kernel
theorem dX9_lakesOf_38 : decode cX9_lakesOf 38 = .ok (.ireturn, 1) := by decide +kernel
theorem dX9_give_0 : decode cX9_give 0 = .ok (.iconst 0, 1) := by decide +kernel
theorem dX9_give_1 : decode cX9_give 1 = .ok (.istore_n 3, 1) := by decide +kernel
theorem dX9_give_2 : decode cX9_give 2 = .ok (.iload_n 3, 1) := by decide +kernel
theorem dX9_give_3 : decode cX9_give 3 = .ok (.aload_n 0, 1) := by decide +kernel
theorem dX9_give_4 : decode cX9_give 4 = .ok (.getfield 34, 3) := by decide +kernel
theorem dX9_give_7 : decode cX9_give 7 = .ok (.getfield 54, 3) := by decide +kernel
theorem dX9_give_10 : decode cX9_give 10 = .ok (.if_icmp .ge 24, 3) := by decide +kernel
theorem dX9_give_13 : decode cX9_give 13 = .ok (.iload_n 1, 1) := by decide +kernel
theorem dX9_give_14 : decode cX9_give 14 = .ok (.iconst 1, 1) := by decide +kernel
theorem dX9_give_15 : decode cX9_give 15 = .ok (.iload_n 3, 1) := by decide +kernel
theorem dX9_give_16 : decode cX9_give 16 = .ok (.ishl, 1) := by decide +kernel
theorem dX9_give_17 : decode cX9_give 17 = .ok (.iand, 1) := by decide +kernel
theorem dX9_give_18 : decode cX9_give 18 = .ok (.ifCond .eq 10, 3) := by decide +kernel
theorem dX9_give_21 : decode cX9_give 21 = .ok (.aload_n 0, 1) := by decide +kernel
theorem dX9_give_22 : decode cX9_give 22 = .ok (.getfield 18, 3) := by decide +kernel
theorem dX9_give_25 : decode cX9_give 25 = .ok (.iload_n 3, 1) := by decide +kernel
theorem dX9_give_26 : decode cX9_give 26 = .ok (.iload_n 2, 1) := by decide +kernel
theorem dX9_give_27 : decode cX9_give 27 = .ok (.iastore, 1) := by decide +kernel
theorem dX9_give_28 : decode cX9_give 28 = .ok (.iinc 3 1, 3) := by decide +kernel
theorem dX9_give_31 : decode cX9_give 31 = .ok (.goto (-29), 3) := by decide +kernel
theorem dX9_give_34 : decode cX9_give 34 = .ok (.return_, 1) := by decide +kernel
theorem dX9_worthOf_0 : decode cX9_worthOf 0 = .ok (.aload_n 0, 1) := by decide +kernel
theorem dX9_worthOf_1 : decode cX9_worthOf 1 = .ok (.iload_n 1, 1) := by decide +kernel
theorem dX9_worthOf_2 : decode cX9_worthOf 2 = .ok (.invokevirtual 77, 3) := by decide +kernel
theorem dX9_worthOf_5 : decode cX9_worthOf 5 = .ok (.ifCond .ne 5, 3) := by decide +kernel
theorem dX9_worthOf_8 : decode cX9_worthOf 8 = .ok (.iconst 0, 1) := by decide +kernel
theorem dX9_worthOf_9 : decode cX9_worthOf 9 = .ok (.ireturn, 1) := by decide +kernel
theorem dX9_worthOf_10 : decode cX9_worthOf 10 = .ok (.aload_n 0, 1) := by decide +kernel
theorem dX9_worthOf_11 : decode cX9_worthOf 11 = .ok (.getfield 34, 3) := by decide +kernel
theorem dX9_worthOf_14 : decode cX9_worthOf 14 = .ok (.iconst 1, 1) := by decide +kernel
theorem dX9_worthOf_15 : decode cX9_worthOf 15 = .ok (.invokevirtual 80, 3) := by decide +kernel
theorem dX9_worthOf_18 : decode cX9_worthOf 18 = .ok (.ifCond .ne 10, 3) := by decide +kernel
theorem dX9_worthOf_21 : decode cX9_worthOf 21 = .ok (.aload_n 0, 1) := by decide +kernel
theorem dX9_worthOf_22 : decode cX9_worthOf 22 = .ok (.getfield 9, 3) := by decide +kernel
theorem dX9_worthOf_25 : decode cX9_worthOf 25 = .ok (.iload_n 1, 1) := by decide +kernel
theorem dX9_worthOf_26 : decode cX9_worthOf 26 = .ok (.iaload, 1) := by decide +kernel
theorem dX9_worthOf_27 : decode cX9_worthOf 27 = .ok (.ireturn, 1) := by decide +kernel
theorem dX9_worthOf_28 : decode cX9_worthOf 28 = .ok (.aload_n 0, 1) := by decide +kernel
theorem dX9_worthOf_29 : decode cX9_worthOf 29 = .ok (.getfield 30, 3) := by decide +kernel
theorem dX9_worthOf_32 : decode cX9_worthOf 32 = .ok (.aload_n 0, 1) := by decide +kernel
theorem dX9_worthOf_33 : decode cX9_worthOf 33 = .ok (.getfield 9, 3) := by decide +kernel
theorem dX9_worthOf_36 : decode cX9_worthOf 36 = .ok (.iload_n 1, 1) := by decide +kernel
theorem dX9_worthOf_37 : decode cX9_worthOf 37 = .ok (.iaload, 1) := by decide +kernel
theorem dX9_worthOf_38 : decode cX9_worthOf 38 = .ok (.aload_n 0, 1) := by decide +kernel
theorem dX9_worthOf_39 : decode cX9_worthOf 39 = .ok (.getfield 38, 3) := by decide +kernel
theorem dX9_worthOf_42 : decode cX9_worthOf 42 = .ok (.aload_n 0, 1) := by decide +kernel
theorem dX9_worthOf_43 : decode cX9_worthOf 43 = .ok (.aload_n 0, 1) := by decide +kernel
theorem dX9_worthOf_44 : decode cX9_worthOf 44 = .ok (.getfield 15, 3) := by decide +kernel
theorem dX9_worthOf_47 : decode cX9_worthOf 47 = .ok (.iload_n 1, 1) := by decide +kernel
theorem dX9_worthOf_48 : decode cX9_worthOf 48 = .ok (.iaload, 1) := by decide +kernel
theorem dX9_worthOf_49 : decode cX9_worthOf 49 = .ok (.invokevirtual 83, 3) := by decide +kernel
theorem dX9_worthOf_52 : decode cX9_worthOf 52 = .ok (.iconst 1, 1) := by decide +kernel
theorem dX9_worthOf_53 : decode cX9_worthOf 53 = .ok (.isub, 1) := by decide +kernel
theorem dX9_worthOf_54 : decode cX9_worthOf 54 = .ok (.invokevirtual 87, 3) := by decide +kernel
theorem dX9_worthOf_57 : decode cX9_worthOf 57 = .ok (.iconst 0, 1) := by decide +kernel
theorem dX9_worthOf_58 : decode cX9_worthOf 58 = .ok (.sipush 9999, 3) := by decide +kernel
theorem dX9_worthOf_61 : decode cX9_worthOf 61 = .ok (.aload_n 0, 1) := by decide +kernel
theorem dX9_worthOf_62 : decode cX9_worthOf 62 = .ok (.getfield 30, 3) := by decide +kernel
theorem dX9_worthOf_65 : decode cX9_worthOf 65 = .ok (.aload_n 0, 1) := by decide +kernel
theorem dX9_worthOf_66 : decode cX9_worthOf 66 = .ok (.getfield 34, 3) := by decide +kernel
theorem dX9_worthOf_69 : decode cX9_worthOf 69 = .ok (.iconst 1, 1) := by decide +kernel
theorem dX9_worthOf_70 : decode cX9_worthOf 70 = .ok (.invokevirtual 91, 3) := by decide +kernel
theorem dX9_worthOf_73 : decode cX9_worthOf 73 = .ok (.invokestatic 95, 3) := by decide +kernel
theorem dX9_worthOf_76 : decode cX9_worthOf 76 = .ok (.invokestatic 101, 3) := by decide +kernel
theorem dX9_worthOf_79 : decode cX9_worthOf 79 = .ok (.ireturn, 1) := by decide +kernel
theorem dX9_worthOfBits_0 : decode cX9_worthOfBits 0 = .ok (.iconst 0, 1) := by decide +kernel
theorem dX9_worthOfBits_1 : decode cX9_worthOfBits 1 = .ok (.istore_n 2, 1) := by decide +kernel
theorem dX9_worthOfBits_2 : decode cX9_worthOfBits 2 = .ok (.iconst 0, 1) := by decide +kernel
theorem dX9_worthOfBits_3 : decode cX9_worthOfBits 3 = .ok (.istore_n 3, 1) := by decide +kernel
theorem dX9_worthOfBits_4 : decode cX9_worthOfBits 4 = .ok (.iload_n 3, 1) := by decide +kernel
theorem dX9_worthOfBits_5 : decode cX9_worthOfBits 5 = .ok (.aload_n 0, 1) := by decide +kernel
theorem dX9_worthOfBits_6 : decode cX9_worthOfBits 6 = .ok (.getfield 34, 3) := by decide +kernel
theorem dX9_worthOfBits_9 : decode cX9_worthOfBits 9 = .ok (.getfield 54, 3) := by decide +kernel
theorem dX9_worthOfBits_12 : decode cX9_worthOfBits 12 = .ok (.if_icmp .ge 25, 3) := by decide +kernel
theorem dX9_worthOfBits_15 : decode cX9_worthOfBits 15 = .ok (.iload_n 1, 1) := by decide +kernel
theorem dX9_worthOfBits_16 : decode cX9_worthOfBits 16 = .ok (.iconst 1, 1) := by decide +kernel
theorem dX9_worthOfBits_17 : decode cX9_worthOfBits 17 = .ok (.iload_n 3, 1) := by decide +kernel
theorem dX9_worthOfBits_18 : decode cX9_worthOfBits 18 = .ok (.ishl, 1) := by decide +kernel
theorem dX9_worthOfBits_19 : decode cX9_worthOfBits 19 = .ok (.iand, 1) := by decide +kernel
theorem dX9_worthOfBits_20 : decode cX9_worthOfBits 20 = .ok (.ifCond .eq 11, 3) := by decide +kernel
theorem dX9_worthOfBits_23 : decode cX9_worthOfBits 23 = .ok (.iload_n 2, 1) := by decide +kernel
theorem dX9_worthOfBits_24 : decode cX9_worthOfBits 24 = .ok (.aload_n 0, 1) := by decide +kernel
theorem dX9_worthOfBits_25 : decode cX9_worthOfBits 25 = .ok (.iload_n 3, 1) := by decide +kernel
theorem dX9_worthOfBits_26 : decode cX9_worthOfBits 26 = .ok (.invokevirtual 104, 3) := by decide +kernel
theorem dX9_worthOfBits_29 : decode cX9_worthOfBits 29 = .ok (.iadd, 1) := by decide +kernel
theorem dX9_worthOfBits_30 : decode cX9_worthOfBits 30 = .ok (.istore_n 2, 1) := by decide +kernel
theorem dX9_worthOfBits_31 : decode cX9_worthOfBits 31 = .ok (.iinc 3 1, 3) := by decide +kernel
theorem dX9_worthOfBits_34 : decode cX9_worthOfBits 34 = .ok (.goto (-30), 3) := by decide +kernel
theorem dX9_worthOfBits_37 : decode cX9_worthOfBits 37 = .ok (.iload_n 2, 1) := by decide +kernel
theorem dX9_worthOfBits_38 : decode cX9_worthOfBits 38 = .ok (.ireturn, 1) := by decide +kernel
theorem dX9_worthOfAll_0 : decode cX9_worthOfAll 0 = .ok (.aload_n 0, 1) := by decide +kernel
theorem dX9_worthOfAll_1 : decode cX9_worthOfAll 1 = .ok (.sipush 255, 3) := by decide +kernel
theorem dX9_worthOfAll_4 : decode cX9_worthOfAll 4 = .ok (.invokevirtual 107, 3) := by decide +kernel
theorem dX9_worthOfAll_7 : decode cX9_worthOfAll 7 = .ok (.ireturn, 1) := by decide +kernel
theorem dX9_worthOfOwner_0 : decode cX9_worthOfOwner 0 = .ok (.aload_n 0, 1) := by decide +kernel
theorem dX9_worthOfOwner_1 : decode cX9_worthOfOwner 1 = .ok (.aload_n 0, 1) := by decide +kernel
theorem dX9_worthOfOwner_2 : decode cX9_worthOfOwner 2 = .ok (.iload_n 1, 1) := by decide +kernel
theorem dX9_worthOfOwner_3 : decode cX9_worthOfOwner 3 = .ok (.invokevirtual 110, 3) := by decide +kernel
theorem dX9_worthOfOwner_6 : decode cX9_worthOfOwner 6 = .ok (.invokevirtual 107, 3) := by decide +kernel
theorem dX9_worthOfOwner_9 : decode cX9_worthOfOwner 9 = .ok (.ireturn, 1) := by decide +kernel
theorem dX9_leakOf_0 : decode cX9_leakOf 0 = .ok (.aload_n 0, 1) := by decide +kernel
theorem dX9_leakOf_1 : decode cX9_leakOf 1 = .ok (.iload_n 1, 1) := by decide +kernel
theorem dX9_leakOf_2 : decode cX9_leakOf 2 = .ok (.invokevirtual 77, 3) := by decide +kernel
theorem dX9_leakOf_5 : decode cX9_leakOf 5 = .ok (.ifCond .eq 14, 3) := by decide +kernel
theorem dX9_leakOf_8 : decode cX9_leakOf 8 = .ok (.aload_n 0, 1) := by decide +kernel
theorem dX9_leakOf_9 : decode cX9_leakOf 9 = .ok (.getfield 34, 3) := by decide +kernel
theorem dX9_leakOf_12 : decode cX9_leakOf 12 = .ok (.iconst 0, 1) := by decide +kernel
theorem dX9_leakOf_13 : decode cX9_leakOf 13 = .ok (.invokevirtual 80, 3) := by decide +kernel
theorem dX9_leakOf_16 : decode cX9_leakOf 16 = .ok (.ifCond .ne 5, 3) := by decide +kernel
theorem dX9_leakOf_19 : decode cX9_leakOf 19 = .ok (.iconst 0, 1) := by decide +kernel
theorem dX9_leakOf_20 : decode cX9_leakOf 20 = .ok (.ireturn, 1) := by decide +kernel
theorem dX9_leakOf_21 : decode cX9_leakOf 21 = .ok (.aload_n 0, 1) := by decide +kernel
theorem dX9_leakOf_22 : decode cX9_leakOf 22 = .ok (.getfield 30, 3) := by decide +kernel
theorem dX9_leakOf_25 : decode cX9_leakOf 25 = .ok (.aload_n 0, 1) := by decide +kernel
theorem dX9_leakOf_26 : decode cX9_leakOf 26 = .ok (.getfield 9, 3) := by decide +kernel
theorem dX9_leakOf_29 : decode cX9_leakOf 29 = .ok (.iload_n 1, 1) := by decide +kernel
theorem dX9_leakOf_30 : decode cX9_leakOf 30 = .ok (.iaload, 1) := by decide +kernel
theorem dX9_leakOf_31 : decode cX9_leakOf 31 = .ok (.aload_n 0, 1) := by decide +kernel
theorem dX9_leakOf_32 : decode cX9_leakOf 32 = .ok (.getfield 38, 3) := by decide +kernel
theorem dX9_leakOf_35 : decode cX9_leakOf 35 = .ok (.aload_n 0, 1) := by decide +kernel
theorem dX9_leakOf_36 : decode cX9_leakOf 36 = .ok (.aload_n 0, 1) := by decide +kernel
theorem dX9_leakOf_37 : decode cX9_leakOf 37 = .ok (.getfield 15, 3) := by decide +kernel
theorem dX9_leakOf_40 : decode cX9_leakOf 40 = .ok (.iload_n 1, 1) := by decide +kernel
theorem dX9_leakOf_41 : decode cX9_leakOf 41 = .ok (.iaload, 1) := by decide +kernel
theorem dX9_leakOf_42 : decode cX9_leakOf 42 = .ok (.invokevirtual 83, 3) := by decide +kernel
theorem dX9_leakOf_45 : decode cX9_leakOf 45 = .ok (.iconst 1, 1) := by decide +kernel
theorem dX9_leakOf_46 : decode cX9_leakOf 46 = .ok (.isub, 1) := by decide +kernel
theorem dX9_leakOf_47 : decode cX9_leakOf 47 = .ok (.invokevirtual 87, 3) := by decide +kernel
theorem dX9_leakOf_50 : decode cX9_leakOf 50 = .ok (.aload_n 0, 1) := by decide +kernel
theorem dX9_leakOf_51 : decode cX9_leakOf 51 = .ok (.getfield 30, 3) := by decide +kernel
theorem dX9_leakOf_54 : decode cX9_leakOf 54 = .ok (.iload_n 2, 1) := by decide +kernel
theorem dX9_leakOf_55 : decode cX9_leakOf 55 = .ok (.invokevirtual 113, 3) := by decide +kernel
theorem dX9_leakOf_58 : decode cX9_leakOf 58 = .ok (.iconst 0, 1) := by decide +kernel
theorem dX9_leakOf_59 : decode cX9_leakOf 59 = .ok (.aload_n 0, 1) := by decide +kernel
theorem dX9_leakOf_60 : decode cX9_leakOf 60 = .ok (.getfield 9, 3) := by decide +kernel
theorem dX9_leakOf_63 : decode cX9_leakOf 63 = .ok (.iload_n 1, 1) := by decide +kernel
theorem dX9_leakOf_64 : decode cX9_leakOf 64 = .ok (.iaload, 1) := by decide +kernel
theorem dX9_leakOf_65 : decode cX9_leakOf 65 = .ok (.aload_n 0, 1) := by decide +kernel
theorem dX9_leakOf_66 : decode cX9_leakOf 66 = .ok (.getfield 30, 3) := by decide +kernel
theorem dX9_leakOf_69 : decode cX9_leakOf 69 = .ok (.aload_n 0, 1) := by decide +kernel
theorem dX9_leakOf_70 : decode cX9_leakOf 70 = .ok (.getfield 34, 3) := by decide +kernel
theorem dX9_leakOf_73 : decode cX9_leakOf 73 = .ok (.iconst 0, 1) := by decide +kernel
theorem dX9_leakOf_74 : decode cX9_leakOf 74 = .ok (.invokevirtual 91, 3) := by decide +kernel
theorem dX9_leakOf_77 : decode cX9_leakOf 77 = .ok (.invokestatic 95, 3) := by decide +kernel
theorem dX9_leakOf_80 : decode cX9_leakOf 80 = .ok (.invokestatic 101, 3) := by decide +kernel
theorem dX9_leakOf_83 : decode cX9_leakOf 83 = .ok (.ireturn, 1) := by decide +kernel
theorem dX9_passNight_0 : decode cX9_passNight 0 = .ok (.iconst 0, 1) := by decide +kernel
theorem dX9_passNight_1 : decode cX9_passNight 1 = .ok (.istore_n 2, 1) := by decide +kernel
theorem dX9_passNight_2 : decode cX9_passNight 2 = .ok (.iload_n 2, 1) := by decide +kernel
theorem dX9_passNight_3 : decode cX9_passNight 3 = .ok (.aload_n 0, 1) := by decide +kernel
theorem dX9_passNight_4 : decode cX9_passNight 4 = .ok (.getfield 34, 3) := by decide +kernel
theorem dX9_passNight_7 : decode cX9_passNight 7 = .ok (.getfield 54, 3) := by decide +kernel
theorem dX9_passNight_10 : decode cX9_passNight 10 = .ok (.if_icmp .ge 21, 3) := by decide +kernel
theorem dX9_passNight_13 : decode cX9_passNight 13 = .ok (.aload_n 0, 1) := by decide +kernel
theorem dX9_passNight_14 : decode cX9_passNight 14 = .ok (.getfield 24, 3) := by decide +kernel
theorem dX9_passNight_17 : decode cX9_passNight 17 = .ok (.iload_n 2, 1) := by decide +kernel
theorem dX9_passNight_18 : decode cX9_passNight 18 = .ok (.aload_n 0, 1) := by decide +kernel
theorem dX9_passNight_19 : decode cX9_passNight 19 = .ok (.iload_n 2, 1) := by decide +kernel
theorem dX9_passNight_20 : decode cX9_passNight 20 = .ok (.iload_n 1, 1) := by decide +kernel
theorem dX9_passNight_21 : decode cX9_passNight 21 = .ok (.invokevirtual 117, 3) := by decide +kernel
theorem dX9_passNight_24 : decode cX9_passNight 24 = .ok (.iastore, 1) := by decide +kernel
theorem dX9_passNight_25 : decode cX9_passNight 25 = .ok (.iinc 2 1, 3) := by decide +kernel
theorem dX9_passNight_28 : decode cX9_passNight 28 = .ok (.goto (-26), 3) := by decide +kernel
theorem dX9_passNight_31 : decode cX9_passNight 31 = .ok (.iconst 0, 1) := by decide +kernel
theorem dX9_passNight_32 : decode cX9_passNight 32 = .ok (.istore_n 2, 1) := by decide +kernel
theorem dX9_passNight_33 : decode cX9_passNight 33 = .ok (.iconst 0, 1) := by decide +kernel
theorem dX9_passNight_34 : decode cX9_passNight 34 = .ok (.istore_n 3, 1) := by decide +kernel
theorem dX9_passNight_35 : decode cX9_passNight 35 = .ok (.iload_n 3, 1) := by decide +kernel
theorem dX9_passNight_36 : decode cX9_passNight 36 = .ok (.aload_n 0, 1) := by decide +kernel
theorem dX9_passNight_37 : decode cX9_passNight 37 = .ok (.getfield 34, 3) := by decide +kernel
theorem dX9_passNight_40 : decode cX9_passNight 40 = .ok (.getfield 54, 3) := by decide +kernel
theorem dX9_passNight_43 : decode cX9_passNight 43 = .ok (.if_icmp .ge 36, 3) := by decide +kernel
theorem dX9_passNight_46 : decode cX9_passNight 46 = .ok (.iload_n 2, 1) := by decide +kernel
theorem dX9_passNight_47 : decode cX9_passNight 47 = .ok (.aload_n 0, 1) := by decide +kernel
theorem dX9_passNight_48 : decode cX9_passNight 48 = .ok (.getfield 24, 3) := by decide +kernel
theorem dX9_passNight_51 : decode cX9_passNight 51 = .ok (.iload_n 3, 1) := by decide +kernel
theorem dX9_passNight_52 : decode cX9_passNight 52 = .ok (.iaload, 1) := by decide +kernel
theorem dX9_passNight_53 : decode cX9_passNight 53 = .ok (.iadd, 1) := by decide +kernel
theorem dX9_passNight_54 : decode cX9_passNight 54 = .ok (.istore_n 2, 1) := by decide +kernel
theorem dX9_passNight_55 : decode cX9_passNight 55 = .ok (.aload_n 0, 1) := by decide +kernel
theorem dX9_passNight_56 : decode cX9_passNight 56 = .ok (.iload_n 3, 1) := by decide +kernel
theorem dX9_passNight_57 : decode cX9_passNight 57 = .ok (.aload_n 0, 1) := by decide +kernel
theorem dX9_passNight_58 : decode cX9_passNight 58 = .ok (.getfield 9, 3) := by decide +kernel
theorem dX9_passNight_61 : decode cX9_passNight 61 = .ok (.iload_n 3, 1) := by decide +kernel
theorem dX9_passNight_62 : decode cX9_passNight 62 = .ok (.iaload, 1) := by decide +kernel
theorem dX9_passNight_63 : decode cX9_passNight 63 = .ok (.aload_n 0, 1) := by decide +kernel
theorem dX9_passNight_64 : decode cX9_passNight 64 = .ok (.getfield 24, 3) := by decide +kernel
theorem dX9_passNight_67 : decode cX9_passNight 67 = .ok (.iload_n 3, 1) := by decide +kernel
theorem dX9_passNight_68 : decode cX9_passNight 68 = .ok (.iaload, 1) := by decide +kernel
theorem dX9_passNight_69 : decode cX9_passNight 69 = .ok (.isub, 1) := by decide +kernel
theorem dX9_passNight_70 : decode cX9_passNight 70 = .ok (.invokevirtual 57, 3) := by decide +kernel
theorem dX9_passNight_73 : decode cX9_passNight 73 = .ok (.iinc 3 1, 3) := by decide +kernel
theorem dX9_passNight_76 : decode cX9_passNight 76 = .ok (.goto (-41), 3) := by decide +kernel
theorem dX9_passNight_79 : decode cX9_passNight 79 = .ok (.aload_n 0, 1) := by decide +kernel
theorem dX9_passNight_80 : decode cX9_passNight 80 = .ok (.sipush 9999, 3) := by decide +kernel
theorem dX9_passNight_83 : decode cX9_passNight 83 = .ok (.aload_n 0, 1) := by decide +kernel
theorem dX9_passNight_84 : decode cX9_passNight 84 = .ok (.getfield 38, 3) := by decide +kernel
theorem dX9_passNight_87 : decode cX9_passNight 87 = .ok (.iconst 1, 1) := by decide +kernel
theorem dX9_passNight_88 : decode cX9_passNight 88 = .ok (.iadd, 1) := by decide +kernel
theorem dX9_passNight_89 : decode cX9_passNight 89 = .ok (.invokestatic 95, 3) := by decide +kernel
theorem dX9_passNight_92 : decode cX9_passNight 92 = .ok (.putfield 38, 3) := by decide +kernel
theorem dX9_passNight_95 : decode cX9_passNight 95 = .ok (.iload_n 2, 1) := by decide +kernel
theorem dX9_passNight_96 : decode cX9_passNight 96 = .ok (.ireturn, 1) := by decide +kernel
theorem dX9_canMove_0 : decode cX9_canMove 0 = .ok (.aload_n 0, 1) := by decide +kernel
theorem dX9_canMove_1 : decode cX9_canMove 1 = .ok (.iload_n 1, 1) := by decide +kernel
theorem dX9_canMove_2 : decode cX9_canMove 2 = .ok (.invokevirtual 77, 3) := by decide +kernel
theorem dX9_canMove_5 : decode cX9_canMove 5 = .ok (.ifCond .eq 44, 3) := by decide +kernel
theorem dX9_canMove_8 : decode cX9_canMove 8 = .ok (.aload_n 0, 1) := by decide +kernel
theorem dX9_canMove_9 : decode cX9_canMove 9 = .ok (.iload_n 2, 1) := by decide +kernel
theorem dX9_canMove_10 : decode cX9_canMove 10 = .ok (.invokevirtual 120, 3) := by decide +kernel
theorem dX9_canMove_13 : decode cX9_canMove 13 = .ok (.ifCond .eq 36, 3) := by decide +kernel
theorem dX9_canMove_16 : decode cX9_canMove 16 = .ok (.aload_n 0, 1) := by decide +kernel
theorem dX9_canMove_17 : decode cX9_canMove 17 = .ok (.getfield 15, 3) := by decide +kernel
theorem dX9_canMove_20 : decode cX9_canMove 20 = .ok (.iload_n 1, 1) := by decide +kernel
theorem dX9_canMove_21 : decode cX9_canMove 21 = .ok (.iaload, 1) := by decide +kernel
theorem dX9_canMove_22 : decode cX9_canMove 22 = .ok (.iload_n 2, 1) := by decide +kernel
theorem dX9_canMove_23 : decode cX9_canMove 23 = .ok (.if_icmp .eq 26, 3) := by decide +kernel
theorem dX9_canMove_26 : decode cX9_canMove 26 = .ok (.aload_n 0, 1) := by decide +kernel
theorem dX9_canMove_27 : decode cX9_canMove 27 = .ok (.iload_n 1, 1) := by decide +kernel
theorem dX9_canMove_28 : decode cX9_canMove 28 = .ok (.iload_n 2, 1) := by decide +kernel
theorem dX9_canMove_29 : decode cX9_canMove 29 = .ok (.aload_n 0, 1) := by decide +kernel
theorem dX9_canMove_30 : decode cX9_canMove 30 = .ok (.iload_n 2, 1) := by decide +kernel
theorem dX9_canMove_31 : decode cX9_canMove 31 = .ok (.invokevirtual 123, 3) := by decide +kernel
theorem dX9_canMove_34 : decode cX9_canMove 34 = .ok (.aload_n 0, 1) := by decide +kernel
theorem dX9_canMove_35 : decode cX9_canMove 35 = .ok (.iload_n 2, 1) := by decide +kernel
theorem dX9_canMove_36 : decode cX9_canMove 36 = .ok (.invokevirtual 83, 3) := by decide +kernel
theorem dX9_canMove_39 : decode cX9_canMove 39 = .ok (.invokevirtual 126, 3) := by decide +kernel
theorem dX9_canMove_42 : decode cX9_canMove 42 = .ok (.ifCond .eq 7, 3) := by decide +kernel
theorem dX9_canMove_45 : decode cX9_canMove 45 = .ok (.iconst 1, 1) := by decide +kernel
theorem dX9_canMove_46 : decode cX9_canMove 46 = .ok (.goto 4, 3) := by decide +kernel
theorem dX9_canMove_49 : decode cX9_canMove 49 = .ok (.iconst 0, 1) := by decide +kernel
theorem dX9_canMove_50 : decode cX9_canMove 50 = .ok (.ireturn, 1) := by decide +kernel
theorem dX9_mayGo_0 : decode cX9_mayGo 0 = .ok (.aload_n 0, 1) := by decide +kernel
theorem dX9_mayGo_1 : decode cX9_mayGo 1 = .ok (.getfield 9, 3) := by decide +kernel
theorem dX9_mayGo_4 : decode cX9_mayGo 4 = .ok (.iload_n 1, 1) := by decide +kernel
theorem dX9_mayGo_5 : decode cX9_mayGo 5 = .ok (.iaload, 1) := by decide +kernel
theorem dX9_mayGo_6 : decode cX9_mayGo 6 = .ok (.aload_n 0, 1) := by decide +kernel
theorem dX9_mayGo_7 : decode cX9_mayGo 7 = .ok (.getfield 34, 3) := by decide +kernel
theorem dX9_mayGo_10 : decode cX9_mayGo 10 = .ok (.getfield 130, 3) := by decide +kernel
theorem dX9_mayGo_13 : decode cX9_mayGo 13 = .ok (.if_icmp .gt 13, 3) := by decide +kernel
theorem dX9_mayGo_16 : decode cX9_mayGo 16 = .ok (.aload_n 0, 1) := by decide +kernel
theorem dX9_mayGo_17 : decode cX9_mayGo 17 = .ok (.getfield 9, 3) := by decide +kernel
theorem dX9_mayGo_20 : decode cX9_mayGo 20 = .ok (.iload_n 1, 1) := by decide +kernel
theorem dX9_mayGo_21 : decode cX9_mayGo 21 = .ok (.iaload, 1) := by decide +kernel
theorem dX9_mayGo_22 : decode cX9_mayGo 22 = .ok (.iload_n 3, 1) := by decide +kernel
theorem dX9_mayGo_23 : decode cX9_mayGo 23 = .ok (.if_icmp .le 5, 3) := by decide +kernel
theorem dX9_mayGo_26 : decode cX9_mayGo 26 = .ok (.iconst 0, 1) := by decide +kernel
theorem dX9_mayGo_27 : decode cX9_mayGo 27 = .ok (.ireturn, 1) := by decide +kernel
theorem dX9_mayGo_28 : decode cX9_mayGo 28 = .ok (.aload_n 0, 1) := by decide +kernel
theorem dX9_mayGo_29 : decode cX9_mayGo 29 = .ok (.getfield 34, 3) := by decide +kernel
theorem dX9_mayGo_32 : decode cX9_mayGo 32 = .ok (.iconst 2, 1) := by decide +kernel
theorem dX9_mayGo_33 : decode cX9_mayGo 33 = .ok (.invokevirtual 80, 3) := by decide +kernel
theorem dX9_mayGo_36 : decode cX9_mayGo 36 = .ok (.ifCond .ne 5, 3) := by decide +kernel
theorem dX9_mayGo_39 : decode cX9_mayGo 39 = .ok (.iconst 1, 1) := by decide +kernel
theorem dX9_mayGo_40 : decode cX9_mayGo 40 = .ok (.ireturn, 1) := by decide +kernel
theorem dX9_mayGo_41 : decode cX9_mayGo 41 = .ok (.aload_n 0, 1) := by decide +kernel
theorem dX9_mayGo_42 : decode cX9_mayGo 42 = .ok (.getfield 30, 3) := by decide +kernel
theorem dX9_mayGo_45 : decode cX9_mayGo 45 = .ok (.aload_n 0, 1) := by decide +kernel
theorem dX9_mayGo_46 : decode cX9_mayGo 46 = .ok (.getfield 9, 3) := by decide +kernel
theorem dX9_mayGo_49 : decode cX9_mayGo 49 = .ok (.iload_n 1, 1) := by decide +kernel
theorem dX9_mayGo_50 : decode cX9_mayGo 50 = .ok (.iaload, 1) := by decide +kernel
theorem dX9_mayGo_51 : decode cX9_mayGo 51 = .ok (.aload_n 0, 1) := by decide +kernel
theorem dX9_mayGo_52 : decode cX9_mayGo 52 = .ok (.getfield 38, 3) := by decide +kernel
theorem dX9_mayGo_55 : decode cX9_mayGo 55 = .ok (.iload 4, 2) := by decide +kernel
theorem dX9_mayGo_57 : decode cX9_mayGo 57 = .ok (.invokevirtual 87, 3) := by decide +kernel
theorem dX9_mayGo_60 : decode cX9_mayGo 60 = .ok (.aload_n 0, 1) := by decide +kernel
theorem dX9_mayGo_61 : decode cX9_mayGo 61 = .ok (.getfield 30, 3) := by decide +kernel
theorem dX9_mayGo_64 : decode cX9_mayGo 64 = .ok (.aload_n 0, 1) := by decide +kernel
theorem dX9_mayGo_65 : decode cX9_mayGo 65 = .ok (.getfield 34, 3) := by decide +kernel
theorem dX9_mayGo_68 : decode cX9_mayGo 68 = .ok (.getfield 133, 3) := by decide +kernel
theorem dX9_mayGo_71 : decode cX9_mayGo 71 = .ok (.iload_n 2, 1) := by decide +kernel
theorem dX9_mayGo_72 : decode cX9_mayGo 72 = .ok (.iaload, 1) := by decide +kernel
theorem dX9_mayGo_73 : decode cX9_mayGo 73 = .ok (.aload_n 0, 1) := by decide +kernel
theorem dX9_mayGo_74 : decode cX9_mayGo 74 = .ok (.getfield 34, 3) := by decide +kernel
theorem dX9_mayGo_77 : decode cX9_mayGo 77 = .ok (.getfield 133, 3) := by decide +kernel
theorem dX9_mayGo_80 : decode cX9_mayGo 80 = .ok (.aload_n 0, 1) := by decide +kernel
theorem dX9_mayGo_81 : decode cX9_mayGo 81 = .ok (.getfield 15, 3) := by decide +kernel
theorem dX9_mayGo_84 : decode cX9_mayGo 84 = .ok (.iload_n 1, 1) := by decide +kernel
theorem dX9_mayGo_85 : decode cX9_mayGo 85 = .ok (.iaload, 1) := by decide +kernel
theorem dX9_mayGo_86 : decode cX9_mayGo 86 = .ok (.iaload, 1) := by decide +kernel
theorem dX9_mayGo_87 : decode cX9_mayGo 87 = .ok (.isub, 1) := by decide +kernel
theorem dX9_mayGo_88 : decode cX9_mayGo 88 = .ok (.invokestatic 136, 3) := by decide +kernel
theorem dX9_mayGo_91 : decode cX9_mayGo 91 = .ok (.iload_n 3, 1) := by decide +kernel
theorem dX9_mayGo_92 : decode cX9_mayGo 92 = .ok (.invokevirtual 139, 3) := by decide +kernel
theorem dX9_mayGo_95 : decode cX9_mayGo 95 = .ok (.aload_n 0, 1) := by decide +kernel
theorem dX9_mayGo_96 : decode cX9_mayGo 96 = .ok (.getfield 30, 3) := by decide +kernel
theorem dX9_mayGo_99 : decode cX9_mayGo 99 = .ok (.aload_n 0, 1) := by decide +kernel
theorem dX9_mayGo_100 : decode cX9_mayGo 100 = .ok (.getfield 34, 3) := by decide +kernel
theorem dX9_mayGo_103 : decode cX9_mayGo 103 = .ok (.iconst 2, 1) := by decide +kernel
theorem dX9_mayGo_104 : decode cX9_mayGo 104 = .ok (.invokevirtual 91, 3) := by decide +kernel
theorem dX9_mayGo_107 : decode cX9_mayGo 107 = .ok (.ifCond .eq 7, 3) := by decide +kernel
theorem dX9_mayGo_110 : decode cX9_mayGo 110 = .ok (.iconst 1, 1) := by decide +kernel
theorem dX9_mayGo_111 : decode cX9_mayGo 111 = .ok (.goto 4, 3) := by decide +kernel
theorem dX9_mayGo_114 : decode cX9_mayGo 114 = .ok (.iconst 0, 1) := by decide +kernel
theorem dX9_mayGo_115 : decode cX9_mayGo 115 = .ok (.ireturn, 1) := by decide +kernel
theorem dX9_canPour_0 : decode cX9_canPour 0 = .ok (.aload_n 0, 1) := by decide +kernel
theorem dX9_canPour_1 : decode cX9_canPour 1 = .ok (.iload_n 1, 1) := by decide +kernel
theorem dX9_canPour_2 : decode cX9_canPour 2 = .ok (.invokevirtual 77, 3) := by decide +kernel
theorem dX9_canPour_5 : decode cX9_canPour 5 = .ok (.ifCond .eq 69, 3) := by decide +kernel
theorem dX9_canPour_8 : decode cX9_canPour 8 = .ok (.aload_n 0, 1) := by decide +kernel
theorem dX9_canPour_9 : decode cX9_canPour 9 = .ok (.iload_n 2, 1) := by decide +kernel
theorem dX9_canPour_10 : decode cX9_canPour 10 = .ok (.invokevirtual 77, 3) := by decide +kernel
theorem dX9_canPour_13 : decode cX9_canPour 13 = .ok (.ifCond .eq 61, 3) := by decide +kernel
theorem dX9_canPour_16 : decode cX9_canPour 16 = .ok (.iload_n 1, 1) := by decide +kernel
theorem dX9_canPour_17 : decode cX9_canPour 17 = .ok (.iload_n 2, 1) := by decide +kernel
theorem dX9_canPour_18 : decode cX9_canPour 18 = .ok (.if_icmp .eq 56, 3) := by decide +kernel
theorem dX9_canPour_21 : decode cX9_canPour 21 = .ok (.aload_n 0, 1) := by decide +kernel
theorem dX9_canPour_22 : decode cX9_canPour 22 = .ok (.getfield 18, 3) := by decide +kernel
theorem dX9_canPour_25 : decode cX9_canPour 25 = .ok (.iload_n 1, 1) := by decide +kernel
theorem dX9_canPour_26 : decode cX9_canPour 26 = .ok (.iaload, 1) := by decide +kernel
theorem dX9_canPour_27 : decode cX9_canPour 27 = .ok (.aload_n 0, 1) := by decide +kernel
theorem dX9_canPour_28 : decode cX9_canPour 28 = .ok (.getfield 18, 3) := by decide +kernel
theorem dX9_canPour_31 : decode cX9_canPour 31 = .ok (.iload_n 2, 1) := by decide +kernel
theorem dX9_canPour_32 : decode cX9_canPour 32 = .ok (.iaload, 1) := by decide +kernel
theorem dX9_canPour_33 : decode cX9_canPour 33 = .ok (.if_icmp .ne 41, 3) := by decide +kernel
theorem dX9_canPour_36 : decode cX9_canPour 36 = .ok (.aload_n 0, 1) := by decide +kernel
theorem dX9_canPour_37 : decode cX9_canPour 37 = .ok (.getfield 15, 3) := by decide +kernel
theorem dX9_canPour_40 : decode cX9_canPour 40 = .ok (.iload_n 1, 1) := by decide +kernel
theorem dX9_canPour_41 : decode cX9_canPour 41 = .ok (.iaload, 1) := by decide +kernel
theorem dX9_canPour_42 : decode cX9_canPour 42 = .ok (.aload_n 0, 1) := by decide +kernel
theorem dX9_canPour_43 : decode cX9_canPour 43 = .ok (.getfield 15, 3) := by decide +kernel
theorem dX9_canPour_46 : decode cX9_canPour 46 = .ok (.iload_n 2, 1) := by decide +kernel
theorem dX9_canPour_47 : decode cX9_canPour 47 = .ok (.iaload, 1) := by decide +kernel
theorem dX9_canPour_48 : decode cX9_canPour 48 = .ok (.if_icmp .ne 26, 3) := by decide +kernel
theorem dX9_canPour_51 : decode cX9_canPour 51 = .ok (.aload_n 0, 1) := by decide +kernel
theorem dX9_canPour_52 : decode cX9_canPour 52 = .ok (.getfield 9, 3) := by decide +kernel
theorem dX9_canPour_55 : decode cX9_canPour 55 = .ok (.iload_n 1, 1) := by decide +kernel
theorem dX9_canPour_56 : decode cX9_canPour 56 = .ok (.iaload, 1) := by decide +kernel
theorem dX9_canPour_57 : decode cX9_canPour 57 = .ok (.aload_n 0, 1) := by decide +kernel
theorem dX9_canPour_58 : decode cX9_canPour 58 = .ok (.getfield 9, 3) := by decide +kernel
theorem dX9_canPour_61 : decode cX9_canPour 61 = .ok (.iload_n 2, 1) := by decide +kernel
theorem dX9_canPour_62 : decode cX9_canPour 62 = .ok (.iaload, 1) := by decide +kernel
theorem dX9_canPour_63 : decode cX9_canPour 63 = .ok (.iadd, 1) := by decide +kernel
theorem dX9_canPour_64 : decode cX9_canPour 64 = .ok (.sipush 999, 3) := by decide +kernel
theorem dX9_canPour_67 : decode cX9_canPour 67 = .ok (.if_icmp .gt 7, 3) := by decide +kernel
theorem dX9_canPour_70 : decode cX9_canPour 70 = .ok (.iconst 1, 1) := by decide +kernel
theorem dX9_canPour_71 : decode cX9_canPour 71 = .ok (.goto 4, 3) := by decide +kernel
theorem dX9_canPour_74 : decode cX9_canPour 74 = .ok (.iconst 0, 1) := by decide +kernel
theorem dX9_canPour_75 : decode cX9_canPour 75 = .ok (.ireturn, 1) := by decide +kernel
theorem dX9_owedBy_0 : decode cX9_owedBy 0 = .ok (.iconst 0, 1) := by decide +kernel
theorem dX9_owedBy_1 : decode cX9_owedBy 1 = .ok (.istore_n 2, 1) := by decide +kernel
theorem dX9_owedBy_2 : decode cX9_owedBy 2 = .ok (.iconst 0, 1) := by decide +kernel
theorem dX9_owedBy_3 : decode cX9_owedBy 3 = .ok (.istore_n 3, 1) := by decide +kernel
theorem dX9_owedBy_4 : decode cX9_owedBy 4 = .ok (.iload_n 3, 1) := by decide +kernel
theorem dX9_owedBy_5 : decode cX9_owedBy 5 = .ok (.aload_n 0, 1) := by decide +kernel
theorem dX9_owedBy_6 : decode cX9_owedBy 6 = .ok (.getfield 34, 3) := by decide +kernel
theorem dX9_owedBy_9 : decode cX9_owedBy 9 = .ok (.getfield 64, 3) := by decide +kernel
theorem dX9_owedBy_12 : decode cX9_owedBy 12 = .ok (.if_icmp .ge 23, 3) := by decide +kernel
theorem dX9_owedBy_15 : decode cX9_owedBy 15 = .ok (.iload_n 2, 1) := by decide +kernel
theorem dX9_owedBy_16 : decode cX9_owedBy 16 = .ok (.aload_n 0, 1) := by decide +kernel
theorem dX9_owedBy_17 : decode cX9_owedBy 17 = .ok (.getfield 21, 3) := by decide +kernel
theorem dX9_owedBy_20 : decode cX9_owedBy 20 = .ok (.iload_n 1, 1) := by decide +kernel
theorem dX9_owedBy_21 : decode cX9_owedBy 21 = .ok (.bipush 6, 2) := by decide +kernel
theorem dX9_owedBy_23 : decode cX9_owedBy 23 = .ok (.imul, 1) := by decide +kernel
theorem dX9_owedBy_24 : decode cX9_owedBy 24 = .ok (.iload_n 3, 1) := by decide +kernel
theorem dX9_owedBy_25 : decode cX9_owedBy 25 = .ok (.iadd, 1) := by decide +kernel
theorem dX9_owedBy_26 : decode cX9_owedBy 26 = .ok (.iaload, 1) := by decide +kernel
theorem dX9_owedBy_27 : decode cX9_owedBy 27 = .ok (.iadd, 1) := by decide +kernel
theorem dX9_owedBy_28 : decode cX9_owedBy 28 = .ok (.istore_n 2, 1) := by decide +kernel
theorem dX9_owedBy_29 : decode cX9_owedBy 29 = .ok (.iinc 3 1, 3) := by decide +kernel
theorem dX9_owedBy_32 : decode cX9_owedBy 32 = .ok (.goto (-28), 3) := by decide +kernel
theorem dX9_owedBy_35 : decode cX9_owedBy 35 = .ok (.iload_n 2, 1) := by decide +kernel
theorem dX9_owedBy_36 : decode cX9_owedBy 36 = .ok (.ireturn, 1) := by decide +kernel
theorem dX9_owedTo_0 : decode cX9_owedTo 0 = .ok (.iconst 0, 1) := by decide +kernel
theorem dX9_owedTo_1 : decode cX9_owedTo 1 = .ok (.istore_n 2, 1) := by decide +kernel
theorem dX9_owedTo_2 : decode cX9_owedTo 2 = .ok (.iconst 0, 1) := by decide +kernel
theorem dX9_owedTo_3 : decode cX9_owedTo 3 = .ok (.istore_n 3, 1) := by decide +kernel
theorem dX9_owedTo_4 : decode cX9_owedTo 4 = .ok (.iload_n 3, 1) := by decide +kernel
theorem dX9_owedTo_5 : decode cX9_owedTo 5 = .ok (.aload_n 0, 1) := by decide +kernel
theorem dX9_owedTo_6 : decode cX9_owedTo 6 = .ok (.getfield 34, 3) := by decide +kernel
theorem dX9_owedTo_9 : decode cX9_owedTo 9 = .ok (.getfield 64, 3) := by decide +kernel
theorem dX9_owedTo_12 : decode cX9_owedTo 12 = .ok (.if_icmp .ge 23, 3) := by decide +kernel
theorem dX9_owedTo_15 : decode cX9_owedTo 15 = .ok (.iload_n 2, 1) := by decide +kernel
theorem dX9_owedTo_16 : decode cX9_owedTo 16 = .ok (.aload_n 0, 1) := by decide +kernel
theorem dX9_owedTo_17 : decode cX9_owedTo 17 = .ok (.getfield 21, 3) := by decide +kernel
theorem dX9_owedTo_20 : decode cX9_owedTo 20 = .ok (.iload_n 3, 1) := by decide +kernel
theorem dX9_owedTo_21 : decode cX9_owedTo 21 = .ok (.bipush 6, 2) := by decide +kernel
theorem dX9_owedTo_23 : decode cX9_owedTo 23 = .ok (.imul, 1) := by decide +kernel
theorem dX9_owedTo_24 : decode cX9_owedTo 24 = .ok (.iload_n 1, 1) := by decide +kernel
theorem dX9_owedTo_25 : decode cX9_owedTo 25 = .ok (.iadd, 1) := by decide +kernel
theorem dX9_owedTo_26 : decode cX9_owedTo 26 = .ok (.iaload, 1) := by decide +kernel
theorem dX9_owedTo_27 : decode cX9_owedTo 27 = .ok (.iadd, 1) := by decide +kernel
theorem dX9_owedTo_28 : decode cX9_owedTo 28 = .ok (.istore_n 2, 1) := by decide +kernel
theorem dX9_owedTo_29 : decode cX9_owedTo 29 = .ok (.iinc 3 1, 3) := by decide +kernel
theorem dX9_owedTo_32 : decode cX9_owedTo 32 = .ok (.goto (-28), 3) := by decide +kernel
theorem dX9_owedTo_35 : decode cX9_owedTo 35 = .ok (.iload_n 2, 1) := by decide +kernel
theorem dX9_owedTo_36 : decode cX9_owedTo 36 = .ok (.ireturn, 1) := by decide +kernel
theorem dX9_netOf_0 : decode cX9_netOf 0 = .ok (.aload_n 0, 1) := by decide +kernel
theorem dX9_netOf_1 : decode cX9_netOf 1 = .ok (.iload_n 1, 1) := by decide +kernel
theorem dX9_netOf_2 : decode cX9_netOf 2 = .ok (.invokevirtual 142, 3) := by decide +kernel
theorem dX9_netOf_5 : decode cX9_netOf 5 = .ok (.aload_n 0, 1) := by decide +kernel
theorem dX9_netOf_6 : decode cX9_netOf 6 = .ok (.iload_n 1, 1) := by decide +kernel
theorem dX9_netOf_7 : decode cX9_netOf 7 = .ok (.invokevirtual 145, 3) := by decide +kernel
theorem dX9_netOf_10 : decode cX9_netOf 10 = .ok (.isub, 1) := by decide +kernel
theorem dX9_netOf_11 : decode cX9_netOf 11 = .ok (.ireturn, 1) := by decide +kernel
theorem dX9_allDebts_0 : decode cX9_allDebts 0 = .ok (.iconst 0, 1) := by decide +kernel
theorem dX9_allDebts_1 : decode cX9_allDebts 1 = .ok (.istore_n 1, 1) := by decide +kernel
theorem dX9_allDebts_2 : decode cX9_allDebts 2 = .ok (.iconst 0, 1) := by decide +kernel
theorem dX9_allDebts_3 : decode cX9_allDebts 3 = .ok (.istore_n 2, 1) := by decide +kernel
theorem dX9_allDebts_4 : decode cX9_allDebts 4 = .ok (.iload_n 2, 1) := by decide +kernel
theorem dX9_allDebts_5 : decode cX9_allDebts 5 = .ok (.aload_n 0, 1) := by decide +kernel
theorem dX9_allDebts_6 : decode cX9_allDebts 6 = .ok (.getfield 34, 3) := by decide +kernel
theorem dX9_allDebts_9 : decode cX9_allDebts 9 = .ok (.getfield 64, 3) := by decide +kernel
theorem dX9_allDebts_12 : decode cX9_allDebts 12 = .ok (.if_icmp .ge 17, 3) := by decide +kernel
theorem dX9_allDebts_15 : decode cX9_allDebts 15 = .ok (.iload_n 1, 1) := by decide +kernel
theorem dX9_allDebts_16 : decode cX9_allDebts 16 = .ok (.aload_n 0, 1) := by decide +kernel
theorem dX9_allDebts_17 : decode cX9_allDebts 17 = .ok (.iload_n 2, 1) := by decide +kernel
theorem dX9_allDebts_18 : decode cX9_allDebts 18 = .ok (.invokevirtual 145, 3) := by decide +kernel
theorem dX9_allDebts_21 : decode cX9_allDebts 21 = .ok (.iadd, 1) := by decide +kernel
theorem dX9_allDebts_22 : decode cX9_allDebts 22 = .ok (.istore_n 1, 1) := by decide +kernel
theorem dX9_allDebts_23 : decode cX9_allDebts 23 = .ok (.iinc 2 1, 3) := by decide +kernel
theorem dX9_allDebts_26 : decode cX9_allDebts 26 = .ok (.goto (-22), 3) := by decide +kernel
theorem dX9_allDebts_29 : decode cX9_allDebts 29 = .ok (.iload_n 1, 1) := by decide +kernel
theorem dX9_allDebts_30 : decode cX9_allDebts 30 = .ok (.ireturn, 1) := by decide +kernel
theorem dX9_isBroke_0 : decode cX9_isBroke 0 = .ok (.aload_n 0, 1) := by decide +kernel
theorem dX9_isBroke_1 : decode cX9_isBroke 1 = .ok (.iload_n 1, 1) := by decide +kernel
theorem dX9_isBroke_2 : decode cX9_isBroke 2 = .ok (.invokevirtual 145, 3) := by decide +kernel
theorem dX9_isBroke_5 : decode cX9_isBroke 5 = .ok (.aload_n 0, 1) := by decide +kernel
theorem dX9_isBroke_6 : decode cX9_isBroke 6 = .ok (.aload_n 0, 1) := by decide +kernel
theorem dX9_isBroke_7 : decode cX9_isBroke 7 = .ok (.iload_n 1, 1) := by decide +kernel
theorem dX9_isBroke_8 : decode cX9_isBroke 8 = .ok (.invokevirtual 110, 3) := by decide +kernel
theorem dX9_isBroke_11 : decode cX9_isBroke 11 = .ok (.invokevirtual 107, 3) := by decide +kernel
theorem dX9_isBroke_14 : decode cX9_isBroke 14 = .ok (.if_icmp .le 7, 3) := by decide +kernel
theorem dX9_isBroke_17 : decode cX9_isBroke 17 = .ok (.iconst 1, 1) := by decide +kernel
theorem dX9_isBroke_18 : decode cX9_isBroke 18 = .ok (.goto 4, 3) := by decide +kernel
theorem dX9_isBroke_21 : decode cX9_isBroke 21 = .ok (.iconst 0, 1) := by decide +kernel
theorem dX9_isBroke_22 : decode cX9_isBroke 22 = .ok (.ireturn, 1) := by decide +kernel
theorem dX10_init_0 : decode cX10_init 0 = .ok (.aload_n 0, 1) := by decide +kernel
theorem dX10_init_1 : decode cX10_init 1 = .ok (.invokespecial 3, 3) := by decide +kernel
theorem dX10_init_4 : decode cX10_init 4 = .ok (.aload_n 0, 1) := by decide +kernel
theorem dX10_init_5 : decode cX10_init 5 = .ok (.aload_n 1, 1) := by decide +kernel
theorem dX10_init_6 : decode cX10_init 6 = .ok (.putfield 9, 3) := by decide +kernel
theorem dX10_init_9 : decode cX10_init 9 = .ok (.return_, 1) := by decide +kernel
theorem dX10_begin_0 : decode cX10_begin 0 = .ok (.aload_n 0, 1) := by decide +kernel
theorem dX10_begin_1 : decode cX10_begin 1 = .ok (.iload_n 1, 1) := by decide +kernel
theorem dX10_begin_2 : decode cX10_begin 2 = .ok (.putfield 15, 3) := by decide +kernel
theorem dX10_begin_5 : decode cX10_begin 5 = .ok (.aload_n 0, 1) := by decide +kernel
theorem dX10_begin_6 : decode cX10_begin 6 = .ok (.iconst 0, 1) := by decide +kernel
theorem dX10_begin_7 : decode cX10_begin 7 = .ok (.putfield 19, 3) := by decide +kernel
theorem dX10_begin_10 : decode cX10_begin 10 = .ok (.aload_n 0, 1) := by decide +kernel
theorem dX10_begin_11 : decode cX10_begin 11 = .ok (.iconst 0, 1) := by decide +kernel
theorem dX10_begin_12 : decode cX10_begin 12 = .ok (.putfield 22, 3) := by decide +kernel
theorem dX10_begin_15 : decode cX10_begin 15 = .ok (.aload_n 0, 1) := by decide +kernel
theorem dX10_begin_16 : decode cX10_begin 16 = .ok (.invokevirtual 25, 3) := by decide +kernel
theorem dX10_begin_19 : decode cX10_begin 19 = .ok (.pop, 1) := by decide +kernel
theorem dX10_begin_20 : decode cX10_begin 20 = .ok (.return_, 1) := by decide +kernel
theorem dX10_isSign_0 : decode cX10_isSign 0 = .ok (.aload_n 0, 1) := by decide +kernel
theorem dX10_isSign_1 : decode cX10_isSign 1 = .ok (.getfield 22, 3) := by decide +kernel
theorem dX10_isSign_4 : decode cX10_isSign 4 = .ok (.iconst 4, 1) := by decide +kernel
theorem dX10_isSign_5 : decode cX10_isSign 5 = .ok (.if_icmp .ne 15, 3) := by decide +kernel
theorem dX10_isSign_8 : decode cX10_isSign 8 = .ok (.aload_n 0, 1) := by decide +kernel
theorem dX10_isSign_9 : decode cX10_isSign 9 = .ok (.getfield 29, 3) := by decide +kernel
theorem dX10_isSign_12 : decode cX10_isSign 12 = .ok (.iload_n 1, 1) := by decide +kernel
theorem dX10_isSign_13 : decode cX10_isSign 13 = .ok (.if_icmp .ne 7, 3) := by decide +kernel
theorem dX10_isSign_16 : decode cX10_isSign 16 = .ok (.iconst 1, 1) := by decide +kernel
theorem dX10_isSign_17 : decode cX10_isSign 17 = .ok (.goto 4, 3) := by decide +kernel
theorem dX10_isSign_20 : decode cX10_isSign 20 = .ok (.iconst 0, 1) := by decide +kernel
theorem dX10_isSign_21 : decode cX10_isSign 21 = .ok (.ireturn, 1) := by decide +kernel
theorem dX10_isOwn_0 : decode cX10_isOwn 0 = .ok (.aload_n 0, 1) := by decide +kernel
theorem dX10_isOwn_1 : decode cX10_isOwn 1 = .ok (.getfield 22, 3) := by decide +kernel
theorem dX10_isOwn_4 : decode cX10_isOwn 4 = .ok (.iconst 2, 1) := by decide +kernel
theorem dX10_isOwn_5 : decode cX10_isOwn 5 = .ok (.if_icmp .ne 15, 3) := by decide +kernel
theorem dX10_isOwn_8 : decode cX10_isOwn 8 = .ok (.aload_n 0, 1) := by decide +kernel
theorem dX10_isOwn_9 : decode cX10_isOwn 9 = .ok (.getfield 29, 3) := by decide +kernel
theorem dX10_isOwn_12 : decode cX10_isOwn 12 = .ok (.iload_n 1, 1) := by decide +kernel
theorem dX10_isOwn_13 : decode cX10_isOwn 13 = .ok (.if_icmp .ne 7, 3) := by decide +kernel
theorem dX10_isOwn_16 : decode cX10_isOwn 16 = .ok (.iconst 1, 1) := by decide +kernel
theorem dX10_isOwn_17 : decode cX10_isOwn 17 = .ok (.goto 4, 3) := by decide +kernel
theorem dX10_isOwn_20 : decode cX10_isOwn 20 = .ok (.iconst 0, 1) := by decide +kernel
theorem dX10_isOwn_21 : decode cX10_isOwn 21 = .ok (.ireturn, 1) := by decide +kernel
theorem dX10_needSign_0 : decode cX10_needSign 0 = .ok (.aload_n 0, 1) := by decide +kernel
theorem dX10_needSign_1 : decode cX10_needSign 1 = .ok (.iload_n 1, 1) := by decide +kernel
theorem dX10_needSign_2 : decode cX10_needSign 2 = .ok (.invokevirtual 32, 3) := by decide +kernel
theorem dX10_needSign_5 : decode cX10_needSign 5 = .ok (.ifCond .ne 10, 3) := by decide +kernel
theorem dX10_needSign_8 : decode cX10_needSign 8 = .ok (.aload_n 0, 1) := by decide +kernel
theorem dX10_needSign_9 : decode cX10_needSign 9 = .ok (.invokevirtual 36, 3) := by decide +kernel
theorem dX10_needSign_12 : decode cX10_needSign 12 = .ok (.ifCond .eq 7, 3) := by decide +kernel
theorem dX10_needSign_15 : decode cX10_needSign 15 = .ok (.iconst 1, 1) := by decide +kernel
theorem dX10_needSign_16 : decode cX10_needSign 16 = .ok (.goto 4, 3) := by decide +kernel
theorem dX10_needSign_19 : decode cX10_needSign 19 = .ok (.iconst 0, 1) := by decide +kernel
theorem dX10_needSign_20 : decode cX10_needSign 20 = .ok (.ireturn, 1) := by decide +kernel
theorem dX10_needOwn_0 : decode cX10_needOwn 0 = .ok (.aload_n 0, 1) := by decide +kernel
theorem dX10_needOwn_1 : decode cX10_needOwn 1 = .ok (.iload_n 1, 1) := by decide +kernel
theorem dX10_needOwn_2 : decode cX10_needOwn 2 = .ok (.invokevirtual 39, 3) := by decide +kernel
theorem dX10_needOwn_5 : decode cX10_needOwn 5 = .ok (.ifCond .ne 10, 3) := by decide +kernel
theorem dX10_needOwn_8 : decode cX10_needOwn 8 = .ok (.aload_n 0, 1) := by decide +kernel
theorem dX10_needOwn_9 : decode cX10_needOwn 9 = .ok (.invokevirtual 36, 3) := by decide +kernel
theorem dX10_needOwn_12 : decode cX10_needOwn 12 = .ok (.ifCond .eq 7, 3) := by decide +kernel
theorem dX10_needOwn_15 : decode cX10_needOwn 15 = .ok (.iconst 1, 1) := by decide +kernel
theorem dX10_needOwn_16 : decode cX10_needOwn 16 = .ok (.goto 4, 3) := by decide +kernel
theorem dX10_needOwn_19 : decode cX10_needOwn 19 = .ok (.iconst 0, 1) := by decide +kernel
theorem dX10_needOwn_20 : decode cX10_needOwn 20 = .ok (.ireturn, 1) := by decide +kernel
theorem dX10_needKind_0 : decode cX10_needKind 0 = .ok (.aload_n 0, 1) := by decide +kernel
theorem dX10_needKind_1 : decode cX10_needKind 1 = .ok (.getfield 22, 3) := by decide +kernel
theorem dX10_needKind_4 : decode cX10_needKind 4 = .ok (.iload_n 1, 1) := by decide +kernel
theorem dX10_needKind_5 : decode cX10_needKind 5 = .ok (.if_icmp .eq 10, 3) := by decide +kernel
theorem dX10_needKind_8 : decode cX10_needKind 8 = .ok (.aload_n 0, 1) := by decide +kernel
theorem dX10_needKind_9 : decode cX10_needKind 9 = .ok (.invokevirtual 36, 3) := by decide +kernel
theorem dX10_needKind_12 : decode cX10_needKind 12 = .ok (.ifCond .eq 7, 3) := by decide +kernel
theorem dX10_needKind_15 : decode cX10_needKind 15 = .ok (.iconst 1, 1) := by decide +kernel
theorem dX10_needKind_16 : decode cX10_needKind 16 = .ok (.goto 4, 3) := by decide +kernel
theorem dX10_needKind_19 : decode cX10_needKind 19 = .ok (.iconst 0, 1) := by decide +kernel
theorem dX10_needKind_20 : decode cX10_needKind 20 = .ok (.ireturn, 1) := by decide +kernel
theorem dX10_fail_0 : decode cX10_fail 0 = .ok (.aload_n 0, 1) := by decide +kernel
theorem dX10_fail_1 : decode cX10_fail 1 = .ok (.iload_n 1, 1) := by decide +kernel
theorem dX10_fail_2 : decode cX10_fail 2 = .ok (.putfield 42, 3) := by decide +kernel
theorem dX10_fail_5 : decode cX10_fail 5 = .ok (.aload_n 0, 1) := by decide +kernel
theorem dX10_fail_6 : decode cX10_fail 6 = .ok (.aload_n 0, 1) := by decide +kernel
theorem dX10_fail_7 : decode cX10_fail 7 = .ok (.getfield 45, 3) := by decide +kernel
theorem dX10_fail_10 : decode cX10_fail 10 = .ok (.putfield 48, 3) := by decide +kernel
theorem dX10_fail_13 : decode cX10_fail 13 = .ok (.iconst 0, 1) := by decide +kernel
theorem dX10_fail_14 : decode cX10_fail 14 = .ok (.ireturn, 1) := by decide +kernel
theorem dX10_failForm_0 : decode cX10_failForm 0 = .ok (.aload_n 0, 1) := by decide +kernel
theorem dX10_failForm_1 : decode cX10_failForm 1 = .ok (.iconst 1, 1) := by decide +kernel
theorem dX10_failForm_2 : decode cX10_failForm 2 = .ok (.putfield 42, 3) := by decide +kernel
theorem dX10_failForm_5 : decode cX10_failForm 5 = .ok (.aload_n 0, 1) := by decide +kernel
theorem dX10_failForm_6 : decode cX10_failForm 6 = .ok (.aload_n 0, 1) := by decide +kernel
theorem dX10_failForm_7 : decode cX10_failForm 7 = .ok (.getfield 51, 3) := by decide +kernel
theorem dX10_failForm_10 : decode cX10_failForm 10 = .ok (.putfield 48, 3) := by decide +kernel
theorem dX10_failForm_13 : decode cX10_failForm 13 = .ok (.iconst 0, 1) := by decide +kernel
theorem dX10_failForm_14 : decode cX10_failForm 14 = .ok (.ireturn, 1) := by decide +kernel
theorem dX10_advance_0 : decode cX10_advance 0 = .ok (.aload_n 0, 1) := by decide +kernel
theorem dX10_advance_1 : decode cX10_advance 1 = .ok (.invokevirtual 54, 3) := by decide +kernel
theorem dX10_advance_4 : decode cX10_advance 4 = .ok (.istore_n 1, 1) := by decide +kernel
theorem dX10_advance_5 : decode cX10_advance 5 = .ok (.aload_n 0, 1) := by decide +kernel
theorem dX10_advance_6 : decode cX10_advance 6 = .ok (.getfield 19, 3) := by decide +kernel
theorem dX10_advance_9 : decode cX10_advance 9 = .ok (.istore_n 2, 1) := by decide +kernel
theorem dX10_advance_10 : decode cX10_advance 10 = .ok (.aload_n 0, 1) := by decide +kernel
theorem dX10_advance_11 : decode cX10_advance 11 = .ok (.getfield 19, 3) := by decide +kernel
theorem dX10_advance_14 : decode cX10_advance 14 = .ok (.aload_n 0, 1) := by decide +kernel
theorem dX10_advance_15 : decode cX10_advance 15 = .ok (.getfield 15, 3) := by decide +kernel
theorem dX10_advance_18 : decode cX10_advance 18 = .ok (.if_icmp .ge 44, 3) := by decide +kernel
theorem dX10_advance_21 : decode cX10_advance 21 = .ok (.aload_n 0, 1) := by decide +kernel
theorem dX10_advance_22 : decode cX10_advance 22 = .ok (.getfield 9, 3) := by decide +kernel
theorem dX10_advance_25 : decode cX10_advance 25 = .ok (.aload_n 0, 1) := by decide +kernel
theorem dX10_advance_26 : decode cX10_advance 26 = .ok (.getfield 19, 3) := by decide +kernel
theorem dX10_advance_29 : decode cX10_advance 29 = .ok (.iaload, 1) := by decide +kernel
theorem dX10_advance_30 : decode cX10_advance 30 = .ok (.bipush 32, 2) := by decide +kernel
theorem dX10_advance_32 : decode cX10_advance 32 = .ok (.if_icmp .eq 17, 3) := by decide +kernel
theorem dX10_advance_35 : decode cX10_advance 35 = .ok (.aload_n 0, 1) := by decide +kernel
theorem dX10_advance_36 : decode cX10_advance 36 = .ok (.getfield 9, 3) := by decide +kernel
theorem dX10_advance_39 : decode cX10_advance 39 = .ok (.aload_n 0, 1) := by decide +kernel
theorem dX10_advance_40 : decode cX10_advance 40 = .ok (.getfield 19, 3) := by decide +kernel
theorem dX10_advance_43 : decode cX10_advance 43 = .ok (.iaload, 1) := by decide +kernel
theorem dX10_advance_44 : decode cX10_advance 44 = .ok (.bipush 10, 2) := by decide +kernel
theorem dX10_advance_46 : decode cX10_advance 46 = .ok (.if_icmp .ne 16, 3) := by decide +kernel
theorem dX10_advance_49 : decode cX10_advance 49 = .ok (.aload_n 0, 1) := by decide +kernel
theorem dX10_advance_50 : decode cX10_advance 50 = .ok (.dup, 1) := by decide +kernel
theorem dX10_advance_51 : decode cX10_advance 51 = .ok (.getfield 19, 3) := by decide +kernel
theorem dX10_advance_54 : decode cX10_advance 54 = .ok (.iconst 1, 1) := by decide +kernel
theorem dX10_advance_55 : decode cX10_advance 55 = .ok (.iadd, 1) := by decide +kernel
theorem dX10_advance_56 : decode cX10_advance 56 = .ok (.putfield 19, 3) := by decide +kernel
theorem dX10_advance_59 : decode cX10_advance 59 = .ok (.goto (-49), 3) := by decide +kernel
theorem dX10_advance_62 : decode cX10_advance 62 = .ok (.aload_n 0, 1) := by decide +kernel
theorem dX10_advance_63 : decode cX10_advance 63 = .ok (.aload_n 0, 1) := by decide +kernel
theorem dX10_advance_64 : decode cX10_advance 64 = .ok (.getfield 19, 3) := by decide +kernel
theorem dX10_advance_67 : decode cX10_advance 67 = .ok (.putfield 45, 3) := by decide +kernel
theorem dX10_advance_70 : decode cX10_advance 70 = .ok (.aload_n 0, 1) := by decide +kernel
theorem dX10_advance_71 : decode cX10_advance 71 = .ok (.aload_n 0, 1) := by decide +kernel
theorem dX10_advance_72 : decode cX10_advance 72 = .ok (.getfield 19, 3) := by decide +kernel
theorem dX10_advance_75 : decode cX10_advance 75 = .ok (.putfield 51, 3) := by decide +kernel
theorem dX10_advance_78 : decode cX10_advance 78 = .ok (.aload_n 0, 1) := by decide +kernel
theorem dX10_advance_79 : decode cX10_advance 79 = .ok (.getfield 19, 3) := by decide +kernel
theorem dX10_advance_82 : decode cX10_advance 82 = .ok (.aload_n 0, 1) := by decide +kernel
theorem dX10_advance_83 : decode cX10_advance 83 = .ok (.getfield 15, 3) := by decide +kernel
theorem dX10_advance_86 : decode cX10_advance 86 = .ok (.if_icmp .lt 11, 3) := by decide +kernel
theorem dX10_advance_89 : decode cX10_advance 89 = .ok (.aload_n 0, 1) := by decide +kernel
theorem dX10_advance_90 : decode cX10_advance 90 = .ok (.iconst 0, 1) := by decide +kernel
theorem dX10_advance_91 : decode cX10_advance 91 = .ok (.putfield 22, 3) := by decide +kernel
theorem dX10_advance_94 : decode cX10_advance 94 = .ok (.goto 75, 3) := by decide +kernel
theorem dX10_advance_97 : decode cX10_advance 97 = .ok (.aload_n 0, 1) := by decide +kernel
theorem dX10_advance_98 : decode cX10_advance 98 = .ok (.getfield 9, 3) := by decide +kernel
theorem dX10_advance_101 : decode cX10_advance 101 = .ok (.aload_n 0, 1) := by decide +kernel
theorem dX10_advance_102 : decode cX10_advance 102 = .ok (.getfield 19, 3) := by decide +kernel
theorem dX10_advance_105 : decode cX10_advance 105 = .ok (.iaload, 1) := by decide +kernel
theorem dX10_advance_106 : decode cX10_advance 106 = .ok (.invokestatic 57, 3) := by decide +kernel
theorem dX10_advance_109 : decode cX10_advance 109 = .ok (.ifCond .eq 10, 3) := by decide +kernel
theorem dX10_advance_112 : decode cX10_advance 112 = .ok (.aload_n 0, 1) := by decide +kernel
theorem dX10_advance_113 : decode cX10_advance 113 = .ok (.invokevirtual 60, 3) := by decide +kernel
theorem dX10_advance_116 : decode cX10_advance 116 = .ok (.goto 53, 3) := by decide +kernel
theorem dX10_advance_119 : decode cX10_advance 119 = .ok (.aload_n 0, 1) := by decide +kernel
theorem dX10_advance_120 : decode cX10_advance 120 = .ok (.getfield 9, 3) := by decide +kernel
theorem dX10_advance_123 : decode cX10_advance 123 = .ok (.aload_n 0, 1) := by decide +kernel
theorem dX10_advance_124 : decode cX10_advance 124 = .ok (.getfield 19, 3) := by decide +kernel
theorem dX10_advance_127 : decode cX10_advance 127 = .ok (.iaload, 1) := by decide +kernel
theorem dX10_advance_128 : decode cX10_advance 128 = .ok (.invokestatic 63, 3) := by decide +kernel
theorem dX10_advance_131 : decode cX10_advance 131 = .ok (.ifCond .eq 10, 3) := by decide +kernel
theorem dX10_advance_134 : decode cX10_advance 134 = .ok (.aload_n 0, 1) := by decide +kernel
theorem dX10_advance_135 : decode cX10_advance 135 = .ok (.invokevirtual 66, 3) := by decide +kernel
theorem dX10_advance_138 : decode cX10_advance 138 = .ok (.goto 31, 3) := by decide +kernel
theorem dX10_advance_141 : decode cX10_advance 141 = .ok (.aload_n 0, 1) := by decide +kernel
theorem dX10_advance_142 : decode cX10_advance 142 = .ok (.iconst 4, 1) := by decide +kernel
theorem dX10_advance_143 : decode cX10_advance 143 = .ok (.putfield 22, 3) := by decide +kernel
theorem dX10_advance_146 : decode cX10_advance 146 = .ok (.aload_n 0, 1) := by decide +kernel
theorem dX10_advance_147 : decode cX10_advance 147 = .ok (.aload_n 0, 1) := by decide +kernel
theorem dX10_advance_148 : decode cX10_advance 148 = .ok (.getfield 9, 3) := by decide +kernel
theorem dX10_advance_151 : decode cX10_advance 151 = .ok (.aload_n 0, 1) := by decide +kernel
theorem dX10_advance_152 : decode cX10_advance 152 = .ok (.getfield 19, 3) := by decide +kernel
theorem dX10_advance_155 : decode cX10_advance 155 = .ok (.iaload, 1) := by decide +kernel
theorem dX10_advance_156 : decode cX10_advance 156 = .ok (.putfield 29, 3) := by decide +kernel
theorem dX10_advance_159 : decode cX10_advance 159 = .ok (.aload_n 0, 1) := by decide +kernel
theorem dX10_advance_160 : decode cX10_advance 160 = .ok (.dup, 1) := by decide +kernel
theorem dX10_advance_161 : decode cX10_advance 161 = .ok (.getfield 19, 3) := by decide +kernel
theorem dX10_advance_164 : decode cX10_advance 164 = .ok (.iconst 1, 1) := by decide +kernel
theorem dX10_advance_165 : decode cX10_advance 165 = .ok (.iadd, 1) := by decide +kernel
theorem dX10_advance_166 : decode cX10_advance 166 = .ok (.putfield 19, 3) := by decide +kernel
theorem dX10_advance_169 : decode cX10_advance 169 = .ok (.iload_n 1, 1) := by decide +kernel
theorem dX10_advance_170 : decode cX10_advance 170 = .ok (.ifCond .eq 31, 3) := by decide +kernel
theorem dX10_advance_173 : decode cX10_advance 173 = .ok (.aload_n 0, 1) := by decide +kernel
theorem dX10_advance_174 : decode cX10_advance 174 = .ok (.getfield 45, 3) := by decide +kernel
theorem dX10_advance_177 : decode cX10_advance 177 = .ok (.iload_n 2, 1) := by decide +kernel
theorem dX10_advance_178 : decode cX10_advance 178 = .ok (.if_icmp .ne 23, 3) := by decide +kernel
theorem dX10_advance_181 : decode cX10_advance 181 = .ok (.aload_n 0, 1) := by decide +kernel
theorem dX10_advance_182 : decode cX10_advance 182 = .ok (.invokevirtual 54, 3) := by decide +kernel
theorem dX10_advance_185 : decode cX10_advance 185 = .ok (.ifCond .eq 16, 3) := by decide +kernel
theorem dX10_advance_188 : decode cX10_advance 188 = .ok (.aload_n 0, 1) := by decide +kernel
theorem dX10_advance_189 : decode cX10_advance 189 = .ok (.iconst 5, 1) := by decide +kernel
theorem dX10_advance_190 : decode cX10_advance 190 = .ok (.putfield 22, 3) := by decide +kernel
theorem dX10_advance_193 : decode cX10_advance 193 = .ok (.aload_n 0, 1) := by decide +kernel
theorem dX10_advance_194 : decode cX10_advance 194 = .ok (.aload_n 0, 1) := by decide +kernel
theorem dX10_advance_195 : decode cX10_advance 195 = .ok (.getfield 45, 3) := by decide +kernel
theorem dX10_advance_198 : decode cX10_advance 198 = .ok (.putfield 51, 3) := by decide +kernel
theorem dX10_advance_201 : decode cX10_advance 201 = .ok (.iconst 1, 1) := by decide +kernel
theorem dX10_advance_202 : decode cX10_advance 202 = .ok (.ireturn, 1) := by decide +kernel
theorem dX10_isText_0 : decode cX10_isText 0 = .ok (.aload_n 0, 1) := by decide +kernel
theorem dX10_isText_1 : decode cX10_isText 1 = .ok (.getfield 22, 3) := by decide +kernel
theorem dX10_isText_4 : decode cX10_isText 4 = .ok (.ifCond .eq 15, 3) := by decide +kernel
theorem dX10_isText_7 : decode cX10_isText 7 = .ok (.aload_n 0, 1) := by decide +kernel
theorem dX10_isText_8 : decode cX10_isText 8 = .ok (.getfield 22, 3) := by decide +kernel
theorem dX10_isText_11 : decode cX10_isText 11 = .ok (.iconst 4, 1) := by decide +kernel
theorem dX10_isText_12 : decode cX10_isText 12 = .ok (.if_icmp .eq 7, 3) := by decide +kernel
theorem dX10_isText_15 : decode cX10_isText 15 = .ok (.iconst 1, 1) := by decide +kernel
theorem dX10_isText_16 : decode cX10_isText 16 = .ok (.goto 4, 3) := by decide +kernel
theorem dX10_isText_19 : decode cX10_isText 19 = .ok (.iconst 0, 1) := by decide +kernel
theorem dX10_isText_20 : decode cX10_isText 20 = .ok (.ireturn, 1) := by decide +kernel
theorem dX10_isLetter_0 : decode cX10_isLetter 0 = .ok (.iload_n 0, 1) := by decide +kernel
theorem dX10_isLetter_1 : decode cX10_isLetter 1 = .ok (.bipush 97, 2) := by decide +kernel
theorem dX10_isLetter_3 : decode cX10_isLetter 3 = .ok (.if_icmp .lt 13, 3) := by decide +kernel
theorem dX10_isLetter_6 : decode cX10_isLetter 6 = .ok (.iload_n 0, 1) := by decide +kernel
theorem dX10_isLetter_7 : decode cX10_isLetter 7 = .ok (.bipush 122, 2) := by decide +kernel
theorem dX10_isLetter_9 : decode cX10_isLetter 9 = .ok (.if_icmp .gt 7, 3) := by decide +kernel
theorem dX10_isLetter_12 : decode cX10_isLetter 12 = .ok (.iconst 1, 1) := by decide +kernel
theorem dX10_isLetter_13 : decode cX10_isLetter 13 = .ok (.goto 4, 3) := by decide +kernel
theorem dX10_isLetter_16 : decode cX10_isLetter 16 = .ok (.iconst 0, 1) := by decide +kernel
theorem dX10_isLetter_17 : decode cX10_isLetter 17 = .ok (.ireturn, 1) := by decide +kernel
theorem dX10_isDigit_0 : decode cX10_isDigit 0 = .ok (.iload_n 0, 1) := by decide +kernel
theorem dX10_isDigit_1 : decode cX10_isDigit 1 = .ok (.bipush 48, 2) := by decide +kernel
theorem dX10_isDigit_3 : decode cX10_isDigit 3 = .ok (.if_icmp .lt 13, 3) := by decide +kernel
theorem dX10_isDigit_6 : decode cX10_isDigit 6 = .ok (.iload_n 0, 1) := by decide +kernel
theorem dX10_isDigit_7 : decode cX10_isDigit 7 = .ok (.bipush 57, 2) := by decide +kernel
theorem dX10_isDigit_9 : decode cX10_isDigit 9 = .ok (.if_icmp .gt 7, 3) := by decide +kernel
theorem dX10_isDigit_12 : decode cX10_isDigit 12 = .ok (.iconst 1, 1) := by decide +kernel
theorem dX10_isDigit_13 : decode cX10_isDigit 13 = .ok (.goto 4, 3) := by decide +kernel
theorem dX10_isDigit_16 : decode cX10_isDigit 16 = .ok (.iconst 0, 1) := by decide +kernel
theorem dX10_isDigit_17 : decode cX10_isDigit 17 = .ok (.ireturn, 1) := by decide +kernel
theorem dX10_readWord_0 : decode cX10_readWord 0 = .ok (.aload_n 0, 1) := by decide +kernel
theorem dX10_readWord_1 : decode cX10_readWord 1 = .ok (.getfield 19, 3) := by decide +kernel
theorem dX10_readWord_4 : decode cX10_readWord 4 = .ok (.aload_n 0, 1) := by decide +kernel
theorem dX10_readWord_5 : decode cX10_readWord 5 = .ok (.getfield 15, 3) := by decide +kernel
theorem dX10_readWord_8 : decode cX10_readWord 8 = .ok (.if_icmp .ge 31, 3) := by decide +kernel
theorem dX10_readWord_11 : decode cX10_readWord 11 = .ok (.aload_n 0, 1) := by decide +kernel
theorem dX10_readWord_12 : decode cX10_readWord 12 = .ok (.getfield 9, 3) := by decide +kernel
theorem dX10_readWord_15 : decode cX10_readWord 15 = .ok (.aload_n 0, 1) := by decide +kernel
theorem dX10_readWord_16 : decode cX10_readWord 16 = .ok (.getfield 19, 3) := by decide +kernel
theorem dX10_readWord_19 : decode cX10_readWord 19 = .ok (.iaload, 1) := by decide +kernel
theorem dX10_readWord_20 : decode cX10_readWord 20 = .ok (.invokestatic 57, 3) := by decide +kernel
theorem dX10_readWord_23 : decode cX10_readWord 23 = .ok (.ifCond .eq 16, 3) := by decide +kernel
theorem dX10_readWord_26 : decode cX10_readWord 26 = .ok (.aload_n 0, 1) := by decide +kernel
theorem dX10_readWord_27 : decode cX10_readWord 27 = .ok (.dup, 1) := by decide +kernel
theorem dX10_readWord_28 : decode cX10_readWord 28 = .ok (.getfield 19, 3) := by decide +kernel
theorem dX10_readWord_31 : decode cX10_readWord 31 = .ok (.iconst 1, 1) := by decide +kernel
theorem dX10_readWord_32 : decode cX10_readWord 32 = .ok (.iadd, 1) := by decide +kernel
theorem dX10_readWord_33 : decode cX10_readWord 33 = .ok (.putfield 19, 3) := by decide +kernel
theorem dX10_readWord_36 : decode cX10_readWord 36 = .ok (.goto (-36), 3) := by decide +kernel
theorem dX10_readWord_39 : decode cX10_readWord 39 = .ok (.aload_n 0, 1) := by decide +kernel
theorem dX10_readWord_40 : decode cX10_readWord 40 = .ok (.getfield 19, 3) := by decide +kernel
theorem dX10_readWord_43 : decode cX10_readWord 43 = .ok (.aload_n 0, 1) := by decide +kernel
theorem dX10_readWord_44 : decode cX10_readWord 44 = .ok (.getfield 45, 3) := by decide +kernel
theorem dX10_readWord_47 : decode cX10_readWord 47 = .ok (.isub, 1) := by decide +kernel
theorem dX10_readWord_48 : decode cX10_readWord 48 = .ok (.istore_n 1, 1) := by decide +kernel
theorem dX10_readWord_49 : decode cX10_readWord 49 = .ok (.aload_n 0, 1) := by decide +kernel
theorem dX10_readWord_50 : decode cX10_readWord 50 = .ok (.iload_n 1, 1) := by decide +kernel
theorem dX10_readWord_51 : decode cX10_readWord 51 = .ok (.invokevirtual 69, 3) := by decide +kernel
theorem dX10_readWord_54 : decode cX10_readWord 54 = .ok (.istore_n 2, 1) := by decide +kernel
theorem dX10_readWord_55 : decode cX10_readWord 55 = .ok (.iload_n 2, 1) := by decide +kernel
theorem dX10_readWord_56 : decode cX10_readWord 56 = .ok (.iconst (-1), 1) := by decide +kernel
theorem dX10_readWord_57 : decode cX10_readWord 57 = .ok (.if_icmp .eq 16, 3) := by decide +kernel
theorem dX10_readWord_60 : decode cX10_readWord 60 = .ok (.aload_n 0, 1) := by decide +kernel
theorem dX10_readWord_61 : decode cX10_readWord 61 = .ok (.iconst 2, 1) := by decide +kernel
theorem dX10_readWord_62 : decode cX10_readWord 62 = .ok (.putfield 22, 3) := by decide +kernel
theorem dX10_readWord_65 : decode cX10_readWord 65 = .ok (.aload_n 0, 1) := by decide +kernel
theorem dX10_readWord_66 : decode cX10_readWord 66 = .ok (.iload_n 2, 1) := by decide +kernel
theorem dX10_readWord_67 : decode cX10_readWord 67 = .ok (.putfield 29, 3) := by decide +kernel
theorem dX10_readWord_70 : decode cX10_readWord 70 = .ok (.goto 42, 3) := by decide +kernel
theorem dX10_readWord_73 : decode cX10_readWord 73 = .ok (.iload_n 1, 1) := by decide +kernel
theorem dX10_readWord_74 : decode cX10_readWord 74 = .ok (.bipush 6, 2) := by decide +kernel
theorem dX10_readWord_76 : decode cX10_readWord 76 = .ok (.if_icmp .le 22, 3) := by decide +kernel
theorem dX10_readWord_79 : decode cX10_readWord 79 = .ok (.aload_n 0, 1) := by decide +kernel
theorem dX10_readWord_80 : decode cX10_readWord 80 = .ok (.iconst 5, 1) := by decide +kernel
theorem dX10_readWord_81 : decode cX10_readWord 81 = .ok (.putfield 22, 3) := by decide +kernel
theorem dX10_readWord_84 : decode cX10_readWord 84 = .ok (.aload_n 0, 1) := by decide +kernel
theorem dX10_readWord_85 : decode cX10_readWord 85 = .ok (.aload_n 0, 1) := by decide +kernel
theorem dX10_readWord_86 : decode cX10_readWord 86 = .ok (.getfield 45, 3) := by decide +kernel
theorem dX10_readWord_89 : decode cX10_readWord 89 = .ok (.bipush 6, 2) := by decide +kernel
theorem dX10_readWord_91 : decode cX10_readWord 91 = .ok (.iadd, 1) := by decide +kernel
theorem dX10_readWord_92 : decode cX10_readWord 92 = .ok (.putfield 51, 3) := by decide +kernel
theorem dX10_readWord_95 : decode cX10_readWord 95 = .ok (.goto 17, 3) := by decide +kernel
theorem dX10_readWord_98 : decode cX10_readWord 98 = .ok (.aload_n 0, 1) := by decide +kernel
theorem dX10_readWord_99 : decode cX10_readWord 99 = .ok (.iconst 1, 1) := by decide +kernel
theorem dX10_readWord_100 : decode cX10_readWord 100 = .ok (.putfield 22, 3) := by decide +kernel
theorem dX10_readWord_103 : decode cX10_readWord 103 = .ok (.aload_n 0, 1) := by decide +kernel
theorem dX10_readWord_104 : decode cX10_readWord 104 = .ok (.aload_n 0, 1) := by decide +kernel
theorem dX10_readWord_105 : decode cX10_readWord 105 = .ok (.iload_n 1, 1) := by decide +kernel
theorem dX10_readWord_106 : decode cX10_readWord 106 = .ok (.invokevirtual 73, 3) := by decide +kernel
theorem dX10_readWord_109 : decode cX10_readWord 109 = .ok (.putfield 29, 3) := by decide +kernel
theorem dX10_readWord_112 : decode cX10_readWord 112 = .ok (.return_, 1) := by decide +kernel
theorem dX10_packName_0 : decode cX10_packName 0 = .ok (.iconst 0, 1) := by decide +kernel
theorem dX10_packName_1 : decode cX10_packName 1 = .ok (.istore_n 2, 1) := by decide +kernel
theorem dX10_packName_2 : decode cX10_packName 2 = .ok (.iconst 0, 1) := by decide +kernel
theorem dX10_packName_3 : decode cX10_packName 3 = .ok (.istore_n 3, 1) := by decide +kernel
theorem dX10_packName_4 : decode cX10_packName 4 = .ok (.iload_n 3, 1) := by decide +kernel
theorem dX10_packName_5 : decode cX10_packName 5 = .ok (.iload_n 1, 1) := by decide +kernel
theorem dX10_packName_6 : decode cX10_packName 6 = .ok (.if_icmp .ge 32, 3) := by decide +kernel
theorem dX10_packName_9 : decode cX10_packName 9 = .ok (.iload_n 2, 1) := by decide +kernel
theorem dX10_packName_10 : decode cX10_packName 10 = .ok (.aload_n 0, 1) := by decide +kernel
theorem dX10_packName_11 : decode cX10_packName 11 = .ok (.getfield 9, 3) := by decide +kernel
theorem dX10_packName_14 : decode cX10_packName 14 = .ok (.aload_n 0, 1) := by decide +kernel
theorem dX10_packName_15 : decode cX10_packName 15 = .ok (.getfield 45, 3) := by decide +kernel
theorem dX10_packName_18 : decode cX10_packName 18 = .ok (.iload_n 3, 1) := by decide +kernel
theorem dX10_packName_19 : decode cX10_packName 19 = .ok (.iadd, 1) := by decide +kernel
theorem dX10_packName_20 : decode cX10_packName 20 = .ok (.iaload, 1) := by decide +kernel
theorem dX10_packName_21 : decode cX10_packName 21 = .ok (.bipush 97, 2) := by decide +kernel
theorem dX10_packName_23 : decode cX10_packName 23 = .ok (.isub, 1) := by decide +kernel
theorem dX10_packName_24 : decode cX10_packName 24 = .ok (.iconst 1, 1) := by decide +kernel
theorem dX10_packName_25 : decode cX10_packName 25 = .ok (.iadd, 1) := by decide +kernel
theorem dX10_packName_26 : decode cX10_packName 26 = .ok (.iconst 5, 1) := by decide +kernel
theorem dX10_packName_27 : decode cX10_packName 27 = .ok (.iload_n 3, 1) := by decide +kernel
theorem dX10_packName_28 : decode cX10_packName 28 = .ok (.imul, 1) := by decide +kernel
theorem dX10_packName_29 : decode cX10_packName 29 = .ok (.ishl, 1) := by decide +kernel
theorem dX10_packName_30 : decode cX10_packName 30 = .ok (.ior, 1) := by decide +kernel
theorem dX10_packName_31 : decode cX10_packName 31 = .ok (.istore_n 2, 1) := by decide +kernel
theorem dX10_packName_32 : decode cX10_packName 32 = .ok (.iinc 3 1, 3) := by decide +kernel
theorem dX10_packName_35 : decode cX10_packName 35 = .ok (.goto (-31), 3) := by decide +kernel
theorem dX10_packName_38 : decode cX10_packName 38 = .ok (.iload_n 2, 1) := by decide +kernel
theorem dX10_packName_39 : decode cX10_packName 39 = .ok (.ireturn, 1) := by decide +kernel
theorem dX10_findOwn_0 : decode cX10_findOwn 0 = .ok (.iconst 0, 1) := by decide +kernel
theorem dX10_findOwn_1 : decode cX10_findOwn 1 = .ok (.istore_n 2, 1) := by decide +kernel
theorem dX10_findOwn_2 : decode cX10_findOwn 2 = .ok (.iload_n 2, 1) := by decide +kernel
theorem dX10_findOwn_3 : decode cX10_findOwn 3 = .ok (.bipush 25, 2) := by decide +kernel
theorem dX10_findOwn_5 : decode cX10_findOwn 5 = .ok (.if_icmp .ge 80, 3) := by decide +kernel
theorem dX10_findOwn_8 : decode cX10_findOwn 8 = .ok (.iload_n 1, 1) := by decide +kernel
theorem dX10_findOwn_9 : decode cX10_findOwn 9 = .ok (.bipush 8, 2) := by decide +kernel
theorem dX10_findOwn_11 : decode cX10_findOwn 11 = .ok (.if_icmp .ge 74, 3) := by decide +kernel
theorem dX10_findOwn_14 : decode cX10_findOwn 14 = .ok (.iload_n 2, 1) := by decide +kernel
theorem dX10_findOwn_15 : decode cX10_findOwn 15 = .ok (.bipush 8, 2) := by decide +kernel
theorem dX10_findOwn_17 : decode cX10_findOwn 17 = .ok (.imul, 1) := by decide +kernel
theorem dX10_findOwn_18 : decode cX10_findOwn 18 = .ok (.istore_n 3, 1) := by decide +kernel
theorem dX10_findOwn_19 : decode cX10_findOwn 19 = .ok (.iconst 0, 1) := by decide +kernel
theorem dX10_findOwn_20 : decode cX10_findOwn 20 = .ok (.istore 4, 2) := by decide +kernel
theorem dX10_findOwn_22 : decode cX10_findOwn 22 = .ok (.iload 4, 2) := by decide +kernel
theorem dX10_findOwn_24 : decode cX10_findOwn 24 = .ok (.iload_n 1, 1) := by decide +kernel
theorem dX10_findOwn_25 : decode cX10_findOwn 25 = .ok (.if_icmp .ge 33, 3) := by decide +kernel
theorem dX10_findOwn_28 : decode cX10_findOwn 28 = .ok (.ldc 76, 2) := by decide +kernel
theorem dX10_findOwn_30 : decode cX10_findOwn 30 = .ok (.iload_n 3, 1) := by decide +kernel
theorem dX10_findOwn_31 : decode cX10_findOwn 31 = .ok (.iload 4, 2) := by decide +kernel
theorem dX10_findOwn_33 : decode cX10_findOwn 33 = .ok (.iadd, 1) := by decide +kernel
theorem dX10_findOwn_34 : decode cX10_findOwn 34 = .ok (.invokevirtual 78, 3) := by decide +kernel
theorem dX10_findOwn_37 : decode cX10_findOwn 37 = .ok (.aload_n 0, 1) := by decide +kernel
theorem dX10_findOwn_38 : decode cX10_findOwn 38 = .ok (.getfield 9, 3) := by decide +kernel
theorem dX10_findOwn_41 : decode cX10_findOwn 41 = .ok (.aload_n 0, 1) := by decide +kernel
theorem dX10_findOwn_42 : decode cX10_findOwn 42 = .ok (.getfield 45, 3) := by decide +kernel
theorem dX10_findOwn_45 : decode cX10_findOwn 45 = .ok (.iload 4, 2) := by decide +kernel
theorem dX10_findOwn_47 : decode cX10_findOwn 47 = .ok (.iadd, 1) := by decide +kernel
theorem dX10_findOwn_48 : decode cX10_findOwn 48 = .ok (.iaload, 1) := by decide +kernel
theorem dX10_findOwn_49 : decode cX10_findOwn 49 = .ok (.if_icmp .ne 9, 3) := by decide +kernel
theorem dX10_findOwn_52 : decode cX10_findOwn 52 = .ok (.iinc 4 1, 3) := by decide +kernel
theorem dX10_findOwn_55 : decode cX10_findOwn 55 = .ok (.goto (-33), 3) := by decide +kernel
theorem dX10_findOwn_58 : decode cX10_findOwn 58 = .ok (.iload 4, 2) := by decide +kernel
theorem dX10_findOwn_60 : decode cX10_findOwn 60 = .ok (.iload_n 1, 1) := by decide +kernel
theorem dX10_findOwn_61 : decode cX10_findOwn 61 = .ok (.if_icmp .ne 18, 3) := by decide +kernel
theorem dX10_findOwn_64 : decode cX10_findOwn 64 = .ok (.ldc 76, 2) := by decide +kernel
theorem dX10_findOwn_66 : decode cX10_findOwn 66 = .ok (.iload_n 3, 1) := by decide +kernel
theorem dX10_findOwn_67 : decode cX10_findOwn 67 = .ok (.iload_n 1, 1) := by decide +kernel
theorem dX10_findOwn_68 : decode cX10_findOwn 68 = .ok (.iadd, 1) := by decide +kernel
theorem dX10_findOwn_69 : decode cX10_findOwn 69 = .ok (.invokevirtual 78, 3) := by decide +kernel
theorem dX10_findOwn_72 : decode cX10_findOwn 72 = .ok (.bipush 32, 2) := by decide +kernel
theorem dX10_findOwn_74 : decode cX10_findOwn 74 = .ok (.if_icmp .ne 5, 3) := by decide +kernel
theorem dX10_findOwn_77 : decode cX10_findOwn 77 = .ok (.iload_n 2, 1) := by decide +kernel
theorem dX10_findOwn_78 : decode cX10_findOwn 78 = .ok (.ireturn, 1) := by decide +kernel
theorem dX10_findOwn_79 : decode cX10_findOwn 79 = .ok (.iinc 2 1, 3) := by decide +kernel
theorem dX10_findOwn_82 : decode cX10_findOwn 82 = .ok (.goto (-80), 3) := by decide +kernel
theorem dX10_findOwn_85 : decode cX10_findOwn 85 = .ok (.iconst (-1), 1) := by decide +kernel
theorem dX10_findOwn_86 : decode cX10_findOwn 86 = .ok (.ireturn, 1) := by decide +kernel
theorem dX10_readNumber_0 : decode cX10_readNumber 0 = .ok (.iconst 0, 1) := by decide +kernel
theorem dX10_readNumber_1 : decode cX10_readNumber 1 = .ok (.istore_n 1, 1) := by decide +kernel
theorem dX10_readNumber_2 : decode cX10_readNumber 2 = .ok (.aload_n 0, 1) := by decide +kernel
theorem dX10_readNumber_3 : decode cX10_readNumber 3 = .ok (.getfield 19, 3) := by decide +kernel
theorem dX10_readNumber_6 : decode cX10_readNumber 6 = .ok (.aload_n 0, 1) := by decide +kernel
theorem dX10_readNumber_7 : decode cX10_readNumber 7 = .ok (.getfield 15, 3) := by decide +kernel
theorem dX10_readNumber_10 : decode cX10_readNumber 10 = .ok (.if_icmp .ge 62, 3) := by decide +kernel
theorem dX10_readNumber_13 : decode cX10_readNumber 13 = .ok (.aload_n 0, 1) := by decide +kernel
theorem dX10_readNumber_14 : decode cX10_readNumber 14 = .ok (.getfield 9, 3) := by decide +kernel
theorem dX10_readNumber_17 : decode cX10_readNumber 17 = .ok (.aload_n 0, 1) := by decide +kernel
theorem dX10_readNumber_18 : decode cX10_readNumber 18 = .ok (.getfield 19, 3) := by decide +kernel
theorem dX10_readNumber_21 : decode cX10_readNumber 21 = .ok (.iaload, 1) := by decide +kernel
theorem dX10_readNumber_22 : decode cX10_readNumber 22 = .ok (.invokestatic 63, 3) := by decide +kernel
theorem dX10_readNumber_25 : decode cX10_readNumber 25 = .ok (.ifCond .eq 47, 3) := by decide +kernel
theorem dX10_readNumber_28 : decode cX10_readNumber 28 = .ok (.aload_n 0, 1) := by decide +kernel
theorem dX10_readNumber_29 : decode cX10_readNumber 29 = .ok (.getfield 19, 3) := by decide +kernel
theorem dX10_readNumber_32 : decode cX10_readNumber 32 = .ok (.aload_n 0, 1) := by decide +kernel
theorem dX10_readNumber_33 : decode cX10_readNumber 33 = .ok (.getfield 45, 3) := by decide +kernel
theorem dX10_readNumber_36 : decode cX10_readNumber 36 = .ok (.isub, 1) := by decide +kernel
theorem dX10_readNumber_37 : decode cX10_readNumber 37 = .ok (.iconst 4, 1) := by decide +kernel
theorem dX10_readNumber_38 : decode cX10_readNumber 38 = .ok (.if_icmp .ge 21, 3) := by decide +kernel
theorem dX10_readNumber_41 : decode cX10_readNumber 41 = .ok (.iload_n 1, 1) := by decide +kernel
theorem dX10_readNumber_42 : decode cX10_readNumber 42 = .ok (.bipush 10, 2) := by decide +kernel
theorem dX10_readNumber_44 : decode cX10_readNumber 44 = .ok (.imul, 1) := by decide +kernel
theorem dX10_readNumber_45 : decode cX10_readNumber 45 = .ok (.aload_n 0, 1) := by decide +kernel
theorem dX10_readNumber_46 : decode cX10_readNumber 46 = .ok (.getfield 9, 3) := by decide +kernel
theorem dX10_readNumber_49 : decode cX10_readNumber 49 = .ok (.aload_n 0, 1) := by decide +kernel
theorem dX10_readNumber_50 : decode cX10_readNumber 50 = .ok (.getfield 19, 3) := by decide +kernel
theorem dX10_readNumber_53 : decode cX10_readNumber 53 = .ok (.iaload, 1) := by decide +kernel
theorem dX10_readNumber_54 : decode cX10_readNumber 54 = .ok (.iadd, 1) := by decide +kernel
theorem dX10_readNumber_55 : decode cX10_readNumber 55 = .ok (.bipush 48, 2) := by decide +kernel
theorem dX10_readNumber_57 : decode cX10_readNumber 57 = .ok (.isub, 1) := by decide +kernel
theorem dX10_readNumber_58 : decode cX10_readNumber 58 = .ok (.istore_n 1, 1) := by decide +kernel
theorem dX10_readNumber_59 : decode cX10_readNumber 59 = .ok (.aload_n 0, 1) := by decide +kernel
theorem dX10_readNumber_60 : decode cX10_readNumber 60 = .ok (.dup, 1) := by decide +kernel
theorem dX10_readNumber_61 : decode cX10_readNumber 61 = .ok (.getfield 19, 3) := by decide +kernel
theorem dX10_readNumber_64 : decode cX10_readNumber 64 = .ok (.iconst 1, 1) := by decide +kernel
theorem dX10_readNumber_65 : decode cX10_readNumber 65 = .ok (.iadd, 1) := by decide +kernel
theorem dX10_readNumber_66 : decode cX10_readNumber 66 = .ok (.putfield 19, 3) := by decide +kernel
theorem dX10_readNumber_69 : decode cX10_readNumber 69 = .ok (.goto (-67), 3) := by decide +kernel
theorem dX10_readNumber_72 : decode cX10_readNumber 72 = .ok (.aload_n 0, 1) := by decide +kernel
theorem dX10_readNumber_73 : decode cX10_readNumber 73 = .ok (.iconst 3, 1) := by decide +kernel
theorem dX10_readNumber_74 : decode cX10_readNumber 74 = .ok (.putfield 22, 3) := by decide +kernel
theorem dX10_readNumber_77 : decode cX10_readNumber 77 = .ok (.aload_n 0, 1) := by decide +kernel
theorem dX10_readNumber_78 : decode cX10_readNumber 78 = .ok (.iload_n 1, 1) := by decide +kernel
theorem dX10_readNumber_79 : decode cX10_readNumber 79 = .ok (.putfield 29, 3) := by decide +kernel
theorem dX10_readNumber_82 : decode cX10_readNumber 82 = .ok (.aload_n 0, 1) := by decide +kernel
theorem dX10_readNumber_83 : decode cX10_readNumber 83 = .ok (.getfield 19, 3) := by decide +kernel
theorem dX10_readNumber_86 : decode cX10_readNumber 86 = .ok (.aload_n 0, 1) := by decide +kernel
theorem dX10_readNumber_87 : decode cX10_readNumber 87 = .ok (.getfield 45, 3) := by decide +kernel
theorem dX10_readNumber_90 : decode cX10_readNumber 90 = .ok (.isub, 1) := by decide +kernel
theorem dX10_readNumber_91 : decode cX10_readNumber 91 = .ok (.iconst 4, 1) := by decide +kernel
theorem dX10_readNumber_92 : decode cX10_readNumber 92 = .ok (.if_icmp .le 18, 3) := by decide +kernel
theorem dX10_readNumber_95 : decode cX10_readNumber 95 = .ok (.aload_n 0, 1) := by decide +kernel
theorem dX10_readNumber_96 : decode cX10_readNumber 96 = .ok (.iconst 5, 1) := by decide +kernel
theorem dX10_readNumber_97 : decode cX10_readNumber 97 = .ok (.putfield 22, 3) := by decide +kernel
theorem dX10_readNumber_100 : decode cX10_readNumber 100 = .ok (.aload_n 0, 1) := by decide +kernel
theorem dX10_readNumber_101 : decode cX10_readNumber 101 = .ok (.aload_n 0, 1) := by decide +kernel
theorem dX10_readNumber_102 : decode cX10_readNumber 102 = .ok (.getfield 45, 3) := by decide +kernel
theorem dX10_readNumber_105 : decode cX10_readNumber 105 = .ok (.iconst 4, 1) := by decide +kernel
theorem dX10_readNumber_106 : decode cX10_readNumber 106 = .ok (.iadd, 1) := by decide +kernel
theorem dX10_readNumber_107 : decode cX10_readNumber 107 = .ok (.putfield 51, 3) := by decide +kernel
theorem dX10_readNumber_110 : decode cX10_readNumber 110 = .ok (.return_, 1) := by decide +kernel
theorem dX11_init_0 : decode cX11_init 0 = .ok (.aload_n 0, 1) := by decide +kernel
theorem dX11_init_1 : decode cX11_init 1 = .ok (.invokespecial 1, 3) := by decide +kernel
theorem dX11_init_4 : decode cX11_init 4 = .ok (.aload_n 0, 1) := by decide +kernel
theorem dX11_init_5 : decode cX11_init 5 = .ok (.sipush 1600, 3) := by decide +kernel
theorem dX11_init_8 : decode cX11_init 8 = .ok (.newarray .int, 2) := by decide +kernel
theorem dX11_init_10 : decode cX11_init 10 = .ok (.putfield 9, 3) := by decide +kernel
theorem dX11_init_13 : decode cX11_init 13 = .ok (.aload_n 0, 1) := by decide +kernel
theorem dX11_init_14 : decode cX11_init 14 = .ok (.new 13, 3) := by decide +kernel
theorem dX11_init_17 : decode cX11_init 17 = .ok (.dup, 1) := by decide +kernel
theorem dX11_init_18 : decode cX11_init 18 = .ok (.invokespecial 15, 3) := by decide +kernel
theorem dX11_init_21 : decode cX11_init 21 = .ok (.putfield 16, 3) := by decide +kernel
theorem dX11_init_24 : decode cX11_init 24 = .ok (.aload_n 0, 1) := by decide +kernel
theorem dX11_init_25 : decode cX11_init 25 = .ok (.new 13, 3) := by decide +kernel
theorem dX11_init_28 : decode cX11_init 28 = .ok (.dup, 1) := by decide +kernel
theorem dX11_init_29 : decode cX11_init 29 = .ok (.invokespecial 15, 3) := by decide +kernel
theorem dX11_init_32 : decode cX11_init 32 = .ok (.putfield 20, 3) := by decide +kernel
theorem dX11_init_35 : decode cX11_init 35 = .ok (.aload_n 0, 1) := by decide +kernel
theorem dX11_init_36 : decode cX11_init 36 = .ok (.new 23, 3) := by decide +kernel
theorem dX11_init_39 : decode cX11_init 39 = .ok (.dup, 1) := by decide +kernel
theorem dX11_init_40 : decode cX11_init 40 = .ok (.aload_n 0, 1) := by decide +kernel
theorem dX11_init_41 : decode cX11_init 41 = .ok (.getfield 9, 3) := by decide +kernel
theorem dX11_init_44 : decode cX11_init 44 = .ok (.invokespecial 25, 3) := by decide +kernel
theorem dX11_init_47 : decode cX11_init 47 = .ok (.putfield 28, 3) := by decide +kernel
theorem dX11_init_50 : decode cX11_init 50 = .ok (.aload_n 0, 1) := by decide +kernel
theorem dX11_init_51 : decode cX11_init 51 = .ok (.iconst (-1), 1) := by decide +kernel
theorem dX11_init_52 : decode cX11_init 52 = .ok (.putfield 32, 3) := by decide +kernel
theorem dX11_init_55 : decode cX11_init 55 = .ok (.aload_n 0, 1) := by decide +kernel
theorem dX11_init_56 : decode cX11_init 56 = .ok (.new 36, 3) := by decide +kernel
theorem dX11_init_59 : decode cX11_init 59 = .ok (.dup, 1) := by decide +kernel
theorem dX11_init_60 : decode cX11_init 60 = .ok (.invokespecial 38, 3) := by decide +kernel
theorem dX11_init_63 : decode cX11_init 63 = .ok (.putfield 39, 3) := by decide +kernel
theorem dX11_init_66 : decode cX11_init 66 = .ok (.aload_n 0, 1) := by decide +kernel
theorem dX11_init_67 : decode cX11_init 67 = .ok (.new 36, 3) := by decide +kernel
theorem dX11_init_70 : decode cX11_init 70 = .ok (.dup, 1) := by decide +kernel
theorem dX11_init_71 : decode cX11_init 71 = .ok (.invokespecial 38, 3) := by decide +kernel
theorem dX11_init_74 : decode cX11_init 74 = .ok (.putfield 43, 3) := by decide +kernel
theorem dX11_init_77 : decode cX11_init 77 = .ok (.aload_n 0, 1) := by decide +kernel
theorem dX11_init_78 : decode cX11_init 78 = .ok (.new 46, 3) := by decide +kernel
theorem dX11_init_81 : decode cX11_init 81 = .ok (.dup, 1) := by decide +kernel
theorem dX11_init_82 : decode cX11_init 82 = .ok (.invokespecial 48, 3) := by decide +kernel
theorem dX11_init_85 : decode cX11_init 85 = .ok (.putfield 49, 3) := by decide +kernel
theorem dX11_init_88 : decode cX11_init 88 = .ok (.aload_n 0, 1) := by decide +kernel
theorem dX11_init_89 : decode cX11_init 89 = .ok (.new 53, 3) := by decide +kernel
theorem dX11_init_92 : decode cX11_init 92 = .ok (.dup, 1) := by decide +kernel
theorem dX11_init_93 : decode cX11_init 93 = .ok (.invokespecial 55, 3) := by decide +kernel
theorem dX11_init_96 : decode cX11_init 96 = .ok (.putfield 56, 3) := by decide +kernel
theorem dX11_init_99 : decode cX11_init 99 = .ok (.aload_n 0, 1) := by decide +kernel
theorem dX11_init_100 : decode cX11_init 100 = .ok (.new 60, 3) := by decide +kernel
theorem dX11_init_103 : decode cX11_init 103 = .ok (.dup, 1) := by decide +kernel
theorem dX11_init_104 : decode cX11_init 104 = .ok (.invokespecial 62, 3) := by decide +kernel
theorem dX11_init_107 : decode cX11_init 107 = .ok (.putfield 63, 3) := by decide +kernel
theorem dX11_init_110 : decode cX11_init 110 = .ok (.aload_n 0, 1) := by decide +kernel
theorem dX11_init_111 : decode cX11_init 111 = .ok (.new 67, 3) := by decide +kernel
theorem dX11_init_114 : decode cX11_init 114 = .ok (.dup, 1) := by decide +kernel
theorem dX11_init_115 : decode cX11_init 115 = .ok (.invokespecial 69, 3) := by decide +kernel
theorem dX11_init_118 : decode cX11_init 118 = .ok (.putfield 70, 3) := by decide +kernel
theorem dX11_init_121 : decode cX11_init 121 = .ok (.aload_n 0, 1) := by decide +kernel
theorem dX11_init_122 : decode cX11_init 122 = .ok (.new 74, 3) := by decide +kernel
theorem dX11_init_125 : decode cX11_init 125 = .ok (.dup, 1) := by decide +kernel
theorem dX11_init_126 : decode cX11_init 126 = .ok (.invokespecial 76, 3) := by decide +kernel
theorem dX11_init_129 : decode cX11_init 129 = .ok (.putfield 77, 3) := by decide +kernel
theorem dX11_init_132 : decode cX11_init 132 = .ok (.aload_n 0, 1) := by decide +kernel
theorem dX11_init_133 : decode cX11_init 133 = .ok (.bipush 8, 2) := by decide +kernel
theorem dX11_init_135 : decode cX11_init 135 = .ok (.newarray .int, 2) := by decide +kernel
theorem dX11_init_137 : decode cX11_init 137 = .ok (.putfield 81, 3) := by decide +kernel
theorem dX11_init_140 : decode cX11_init 140 = .ok (.aload_n 0, 1) := by decide +kernel
theorem dX11_init_141 : decode cX11_init 141 = .ok (.bipush 8, 2) := by decide +kernel
theorem dX11_init_143 : decode cX11_init 143 = .ok (.newarray .int, 2) := by decide +kernel
theorem dX11_init_145 : decode cX11_init 145 = .ok (.putfield 84, 3) := by decide +kernel
theorem dX11_init_148 : decode cX11_init 148 = .ok (.aload_n 0, 1) := by decide +kernel
theorem dX11_init_149 : decode cX11_init 149 = .ok (.iconst 1, 1) := by decide +kernel
theorem dX11_init_150 : decode cX11_init 150 = .ok (.putfield 87, 3) := by decide +kernel
theorem dX11_init_153 : decode cX11_init 153 = .ok (.aload_n 0, 1) := by decide +kernel
theorem dX11_init_154 : decode cX11_init 154 = .ok (.bipush 6, 2) := by decide +kernel
theorem dX11_init_156 : decode cX11_init 156 = .ok (.newarray .int, 2) := by decide +kernel
theorem dX11_init_158 : decode cX11_init 158 = .ok (.putfield 90, 3) := by decide +kernel
theorem dX11_init_161 : decode cX11_init 161 = .ok (.aload_n 0, 1) := by decide +kernel
theorem dX11_init_162 : decode cX11_init 162 = .ok (.getfield 39, 3) := by decide +kernel
theorem dX11_init_165 : decode cX11_init 165 = .ok (.aload_n 0, 1) := by decide +kernel
theorem dX11_init_166 : decode cX11_init 166 = .ok (.getfield 16, 3) := by decide +kernel
theorem dX11_init_169 : decode cX11_init 169 = .ok (.invokevirtual 93, 3) := by decide +kernel
theorem dX11_init_172 : decode cX11_init 172 = .ok (.aload_n 0, 1) := by decide +kernel
theorem dX11_init_173 : decode cX11_init 173 = .ok (.getfield 43, 3) := by decide +kernel
theorem dX11_init_176 : decode cX11_init 176 = .ok (.aload_n 0, 1) := by decide +kernel
theorem dX11_init_177 : decode cX11_init 177 = .ok (.getfield 16, 3) := by decide +kernel
theorem dX11_init_180 : decode cX11_init 180 = .ok (.invokevirtual 93, 3) := by decide +kernel
theorem dX11_init_183 : decode cX11_init 183 = .ok (.return_, 1) := by decide +kernel
theorem dX11_feed_0 : decode cX11_feed 0 = .ok (.aload_n 0, 1) := by decide +kernel
theorem dX11_feed_1 : decode cX11_feed 1 = .ok (.getfield 97, 3) := by decide +kernel
theorem dX11_feed_4 : decode cX11_feed 4 = .ok (.bipush 20, 2) := by decide +kernel
theorem dX11_feed_6 : decode cX11_feed 6 = .ok (.iadd, 1) := by decide +kernel
theorem dX11_feed_7 : decode cX11_feed 7 = .ok (.sipush 1600, 3) := by decide +kernel
theorem dX11_feed_10 : decode cX11_feed 10 = .ok (.if_icmp .le 9, 3) := by decide +kernel
theorem dX11_feed_13 : decode cX11_feed 13 = .ok (.aload_n 0, 1) := by decide +kernel
theorem dX11_feed_14 : decode cX11_feed 14 = .ok (.iconst 0, 1) := by decide +kernel
theorem dX11_feed_15 : decode cX11_feed 15 = .ok (.invokevirtual 100, 3) := by decide +kernel
theorem dX11_feed_18 : decode cX11_feed 18 = .ok (.ireturn, 1) := by decide +kernel
theorem dX11_feed_19 : decode cX11_feed 19 = .ok (.aload_n 0, 1) := by decide +kernel
theorem dX11_feed_20 : decode cX11_feed 20 = .ok (.iload_n 1, 1) := by decide +kernel
theorem dX11_feed_21 : decode cX11_feed 21 = .ok (.invokevirtual 104, 3) := by decide +kernel
theorem dX11_feed_24 : decode cX11_feed 24 = .ok (.aload_n 0, 1) := by decide +kernel
theorem dX11_feed_25 : decode cX11_feed 25 = .ok (.iload_n 2, 1) := by decide +kernel
theorem dX11_feed_26 : decode cX11_feed 26 = .ok (.invokevirtual 104, 3) := by decide +kernel
theorem dX11_feed_29 : decode cX11_feed 29 = .ok (.aload_n 0, 1) := by decide +kernel
theorem dX11_feed_30 : decode cX11_feed 30 = .ok (.iload_n 3, 1) := by decide +kernel
theorem dX11_feed_31 : decode cX11_feed 31 = .ok (.invokevirtual 104, 3) := by decide +kernel
theorem dX11_feed_34 : decode cX11_feed 34 = .ok (.aload_n 0, 1) := by decide +kernel
theorem dX11_feed_35 : decode cX11_feed 35 = .ok (.iload 4, 2) := by decide +kernel
theorem dX11_feed_37 : decode cX11_feed 37 = .ok (.invokevirtual 104, 3) := by decide +kernel
theorem dX11_feed_40 : decode cX11_feed 40 = .ok (.aload_n 0, 1) := by decide +kernel
theorem dX11_feed_41 : decode cX11_feed 41 = .ok (.iload 5, 2) := by decide +kernel
theorem dX11_feed_43 : decode cX11_feed 43 = .ok (.invokevirtual 104, 3) := by decide +kernel
theorem dX11_feed_46 : decode cX11_feed 46 = .ok (.aload_n 0, 1) := by decide +kernel
theorem dX11_feed_47 : decode cX11_feed 47 = .ok (.getfield 97, 3) := by decide +kernel
theorem dX11_feed_50 : decode cX11_feed 50 = .ok (.ireturn, 1) := by decide +kernel
theorem dX11_putFour_0 : decode cX11_putFour 0 = .ok (.bipush 24, 2) := by decide +kernel
theorem dX11_putFour_2 : decode cX11_putFour 2 = .ok (.istore_n 2, 1) := by decide +kernel
theorem dX11_putFour_3 : decode cX11_putFour 3 = .ok (.iload_n 2, 1) := by decide +kernel
theorem dX11_putFour_4 : decode cX11_putFour 4 = .ok (.ifCond .lt 45, 3) := by decide +kernel
theorem dX11_putFour_7 : decode cX11_putFour 7 = .ok (.aload_n 0, 1) := by decide +kernel
theorem dX11_putFour_8 : decode cX11_putFour 8 = .ok (.getfield 97, 3) := by decide +kernel
theorem dX11_putFour_11 : decode cX11_putFour 11 = .ok (.sipush 1600, 3) := by decide +kernel
theorem dX11_putFour_14 : decode cX11_putFour 14 = .ok (.if_icmp .ge 35, 3) := by decide +kernel
theorem dX11_putFour_17 : decode cX11_putFour 17 = .ok (.aload_n 0, 1) := by decide +kernel
theorem dX11_putFour_18 : decode cX11_putFour 18 = .ok (.getfield 9, 3) := by decide +kernel
theorem dX11_putFour_21 : decode cX11_putFour 21 = .ok (.aload_n 0, 1) := by decide +kernel
theorem dX11_putFour_22 : decode cX11_putFour 22 = .ok (.getfield 97, 3) := by decide +kernel
theorem dX11_putFour_25 : decode cX11_putFour 25 = .ok (.iload_n 1, 1) := by decide +kernel
theorem dX11_putFour_26 : decode cX11_putFour 26 = .ok (.iload_n 2, 1) := by decide +kernel
theorem dX11_putFour_27 : decode cX11_putFour 27 = .ok (.iushr, 1) := by decide +kernel
theorem dX11_putFour_28 : decode cX11_putFour 28 = .ok (.sipush 255, 3) := by decide +kernel
theorem dX11_putFour_31 : decode cX11_putFour 31 = .ok (.iand, 1) := by decide +kernel
theorem dX11_putFour_32 : decode cX11_putFour 32 = .ok (.iastore, 1) := by decide +kernel
theorem dX11_putFour_33 : decode cX11_putFour 33 = .ok (.aload_n 0, 1) := by decide +kernel
theorem dX11_putFour_34 : decode cX11_putFour 34 = .ok (.dup, 1) := by decide +kernel
theorem dX11_putFour_35 : decode cX11_putFour 35 = .ok (.getfield 97, 3) := by decide +kernel
theorem dX11_putFour_38 : decode cX11_putFour 38 = .ok (.iconst 1, 1) := by decide +kernel
theorem dX11_putFour_39 : decode cX11_putFour 39 = .ok (.iadd, 1) := by decide +kernel
theorem dX11_putFour_40 : decode cX11_putFour 40 = .ok (.putfield 97, 3) := by decide +kernel
theorem dX11_putFour_43 : decode cX11_putFour 43 = .ok (.iinc 2 (-8), 3) := by decide +kernel
theorem dX11_putFour_46 : decode cX11_putFour 46 = .ok (.goto (-43), 3) := by decide +kernel
theorem dX11_putFour_49 : decode cX11_putFour 49 = .ok (.return_, 1) := by decide +kernel
theorem dX11_end_0 : decode cX11_end 0 = .ok (.iload_n 1, 1) := by decide +kernel
theorem dX11_end_1 : decode cX11_end 1 = .ok (.ifCond .lt 11, 3) := by decide +kernel
theorem dX11_end_4 : decode cX11_end 4 = .ok (.iload_n 1, 1) := by decide +kernel
theorem dX11_end_5 : decode cX11_end 5 = .ok (.aload_n 0, 1) := by decide +kernel
theorem dX11_end_6 : decode cX11_end 6 = .ok (.getfield 97, 3) := by decide +kernel
theorem dX11_end_9 : decode cX11_end 9 = .ok (.if_icmp .le 11, 3) := by decide +kernel
theorem dX11_end_12 : decode cX11_end 12 = .ok (.aload_n 0, 1) := by decide +kernel
theorem dX11_end_13 : decode cX11_end 13 = .ok (.iconst 0, 1) := by decide +kernel
theorem dX11_end_14 : decode cX11_end 14 = .ok (.invokevirtual 100, 3) := by decide +kernel
theorem dX11_end_17 : decode cX11_end 17 = .ok (.pop, 1) := by decide +kernel
theorem dX11_end_18 : decode cX11_end 18 = .ok (.iconst 0, 1) := by decide +kernel
theorem dX11_end_19 : decode cX11_end 19 = .ok (.ireturn, 1) := by decide +kernel
theorem dX11_end_20 : decode cX11_end 20 = .ok (.aload_n 0, 1) := by decide +kernel
theorem dX11_end_21 : decode cX11_end 21 = .ok (.iload_n 1, 1) := by decide +kernel
theorem dX11_end_22 : decode cX11_end 22 = .ok (.putfield 97, 3) := by decide +kernel
theorem dX11_end_25 : decode cX11_end 25 = .ok (.iconst 1, 1) := by decide +kernel
theorem dX11_end_26 : decode cX11_end 26 = .ok (.ireturn, 1) := by decide +kernel
theorem dX11_takeTape_0 : decode cX11_takeTape 0 = .ok (.aload_n 0, 1) := by decide +kernel
theorem dX11_takeTape_1 : decode cX11_takeTape 1 = .ok (.getfield 97, 3) := by decide +kernel
theorem dX11_takeTape_4 : decode cX11_takeTape 4 = .ok (.istore_n 1, 1) := by decide +kernel
theorem dX11_takeTape_5 : decode cX11_takeTape 5 = .ok (.aload_n 0, 1) := by decide +kernel
theorem dX11_takeTape_6 : decode cX11_takeTape 6 = .ok (.iconst 0, 1) := by decide +kernel
theorem dX11_takeTape_7 : decode cX11_takeTape 7 = .ok (.putfield 97, 3) := by decide +kernel
theorem dX11_takeTape_10 : decode cX11_takeTape 10 = .ok (.iload_n 1, 1) := by decide +kernel
theorem dX11_takeTape_11 : decode cX11_takeTape 11 = .ok (.ireturn, 1) := by decide +kernel
theorem dX11_refuse_0 : decode cX11_refuse 0 = .ok (.aload_n 0, 1) := by decide +kernel
theorem dX11_refuse_1 : decode cX11_refuse 1 = .ok (.getfield 90, 3) := by decide +kernel
theorem dX11_refuse_4 : decode cX11_refuse 4 = .ok (.iload_n 1, 1) := by decide +kernel
theorem dX11_refuse_5 : decode cX11_refuse 5 = .ok (.dup2, 1) := by decide +kernel
theorem dX11_refuse_6 : decode cX11_refuse 6 = .ok (.iaload, 1) := by decide +kernel
theorem dX11_refuse_7 : decode cX11_refuse 7 = .ok (.iconst 1, 1) := by decide +kernel
theorem dX11_refuse_8 : decode cX11_refuse 8 = .ok (.iadd, 1) := by decide +kernel
theorem dX11_refuse_9 : decode cX11_refuse 9 = .ok (.iastore, 1) := by decide +kernel
theorem dX11_refuse_10 : decode cX11_refuse 10 = .ok (.iconst (-1), 1) := by decide +kernel
theorem dX11_refuse_11 : decode cX11_refuse 11 = .ok (.ireturn, 1) := by decide +kernel
theorem dX11_lowland_0 : decode cX11_lowland 0 = .ok (.aload_n 0, 1) := by decide +kernel
theorem dX11_lowland_1 : decode cX11_lowland 1 = .ok (.invokevirtual 108, 3) := by decide +kernel
theorem dX11_lowland_4 : decode cX11_lowland 4 = .ok (.istore_n 1, 1) := by decide +kernel
theorem dX11_lowland_5 : decode cX11_lowland 5 = .ok (.aload_n 0, 1) := by decide +kernel
theorem dX11_lowland_6 : decode cX11_lowland 6 = .ok (.getfield 28, 3) := by decide +kernel
theorem dX11_lowland_9 : decode cX11_lowland 9 = .ok (.iload_n 1, 1) := by decide +kernel
theorem dX11_lowland_10 : decode cX11_lowland 10 = .ok (.aload_n 0, 1) := by decide +kernel
theorem dX11_lowland_11 : decode cX11_lowland 11 = .ok (.getfield 20, 3) := by decide +kernel
theorem dX11_lowland_14 : decode cX11_lowland 14 = .ok (.invokevirtual 112, 3) := by decide +kernel
theorem dX11_lowland_17 : decode cX11_lowland 17 = .ok (.ifCond .ne 37, 3) := by decide +kernel
theorem dX11_lowland_20 : decode cX11_lowland 20 = .ok (.aload_n 0, 1) := by decide +kernel
theorem dX11_lowland_21 : decode cX11_lowland 21 = .ok (.aload_n 0, 1) := by decide +kernel
theorem dX11_lowland_22 : decode cX11_lowland 22 = .ok (.getfield 28, 3) := by decide +kernel
theorem dX11_lowland_25 : decode cX11_lowland 25 = .ok (.getfield 116, 3) := by decide +kernel
theorem dX11_lowland_28 : decode cX11_lowland 28 = .ok (.getfield 120, 3) := by decide +kernel
theorem dX11_lowland_31 : decode cX11_lowland 31 = .ok (.putfield 125, 3) := by decide +kernel
theorem dX11_lowland_34 : decode cX11_lowland 34 = .ok (.aload_n 0, 1) := by decide +kernel
theorem dX11_lowland_35 : decode cX11_lowland 35 = .ok (.aload_n 0, 1) := by decide +kernel
theorem dX11_lowland_36 : decode cX11_lowland 36 = .ok (.getfield 28, 3) := by decide +kernel
theorem dX11_lowland_39 : decode cX11_lowland 39 = .ok (.getfield 116, 3) := by decide +kernel
theorem dX11_lowland_42 : decode cX11_lowland 42 = .ok (.getfield 126, 3) := by decide +kernel
theorem dX11_lowland_45 : decode cX11_lowland 45 = .ok (.putfield 32, 3) := by decide +kernel
theorem dX11_lowland_48 : decode cX11_lowland 48 = .ok (.aload_n 0, 1) := by decide +kernel
theorem dX11_lowland_49 : decode cX11_lowland 49 = .ok (.iconst 1, 1) := by decide +kernel
theorem dX11_lowland_50 : decode cX11_lowland 50 = .ok (.invokevirtual 100, 3) := by decide +kernel
theorem dX11_lowland_53 : decode cX11_lowland 53 = .ok (.ireturn, 1) := by decide +kernel
theorem dX11_lowland_54 : decode cX11_lowland 54 = .ok (.aload_n 0, 1) := by decide +kernel
theorem dX11_lowland_55 : decode cX11_lowland 55 = .ok (.getfield 16, 3) := by decide +kernel
theorem dX11_lowland_58 : decode cX11_lowland 58 = .ok (.astore_n 2, 1) := by decide +kernel
theorem dX11_lowland_59 : decode cX11_lowland 59 = .ok (.aload_n 0, 1) := by decide +kernel
theorem dX11_lowland_60 : decode cX11_lowland 60 = .ok (.aload_n 0, 1) := by decide +kernel
theorem dX11_lowland_61 : decode cX11_lowland 61 = .ok (.getfield 20, 3) := by decide +kernel
theorem dX11_lowland_64 : decode cX11_lowland 64 = .ok (.putfield 16, 3) := by decide +kernel
theorem dX11_lowland_67 : decode cX11_lowland 67 = .ok (.aload_n 0, 1) := by decide +kernel
theorem dX11_lowland_68 : decode cX11_lowland 68 = .ok (.aload_n 2, 1) := by decide +kernel
theorem dX11_lowland_69 : decode cX11_lowland 69 = .ok (.putfield 20, 3) := by decide +kernel
theorem dX11_lowland_72 : decode cX11_lowland 72 = .ok (.aload_n 0, 1) := by decide +kernel
theorem dX11_lowland_73 : decode cX11_lowland 73 = .ok (.iconst 0, 1) := by decide +kernel
theorem dX11_lowland_74 : decode cX11_lowland 74 = .ok (.putfield 125, 3) := by decide +kernel
theorem dX11_lowland_77 : decode cX11_lowland 77 = .ok (.aload_n 0, 1) := by decide +kernel
theorem dX11_lowland_78 : decode cX11_lowland 78 = .ok (.iconst (-1), 1) := by decide +kernel
theorem dX11_lowland_79 : decode cX11_lowland 79 = .ok (.putfield 32, 3) := by decide +kernel
theorem dX11_lowland_82 : decode cX11_lowland 82 = .ok (.aload_n 0, 1) := by decide +kernel
theorem dX11_lowland_83 : decode cX11_lowland 83 = .ok (.getfield 39, 3) := by decide +kernel
theorem dX11_lowland_86 : decode cX11_lowland 86 = .ok (.aload_n 0, 1) := by decide +kernel
theorem dX11_lowland_87 : decode cX11_lowland 87 = .ok (.getfield 16, 3) := by decide +kernel
theorem dX11_lowland_90 : decode cX11_lowland 90 = .ok (.invokevirtual 93, 3) := by decide +kernel
theorem dX11_lowland_93 : decode cX11_lowland 93 = .ok (.aload_n 0, 1) := by decide +kernel
theorem dX11_lowland_94 : decode cX11_lowland 94 = .ok (.invokevirtual 127, 3) := by decide +kernel
theorem dX11_lowland_97 : decode cX11_lowland 97 = .ok (.aload_n 0, 1) := by decide +kernel
theorem dX11_lowland_98 : decode cX11_lowland 98 = .ok (.iconst 0, 1) := by decide +kernel
theorem dX11_lowland_99 : decode cX11_lowland 99 = .ok (.putfield 130, 3) := by decide +kernel
theorem dX11_lowland_102 : decode cX11_lowland 102 = .ok (.aload_n 0, 1) := by decide +kernel
theorem dX11_lowland_103 : decode cX11_lowland 103 = .ok (.getfield 16, 3) := by decide +kernel
theorem dX11_lowland_106 : decode cX11_lowland 106 = .ok (.getfield 133, 3) := by decide +kernel
theorem dX11_lowland_109 : decode cX11_lowland 109 = .ok (.ireturn, 1) := by decide +kernel
theorem dX11_forgetActs_0 : decode cX11_forgetActs 0 = .ok (.aload_n 0, 1) := by decide +kernel
theorem dX11_forgetActs_1 : decode cX11_forgetActs 1 = .ok (.getfield 49, 3) := by decide +kernel
theorem dX11_forgetActs_4 : decode cX11_forgetActs 4 = .ok (.invokevirtual 136, 3) := by decide +kernel
theorem dX11_forgetActs_7 : decode cX11_forgetActs 7 = .ok (.aload_n 0, 1) := by decide +kernel
theorem dX11_forgetActs_8 : decode cX11_forgetActs 8 = .ok (.getfield 56, 3) := by decide +kernel
theorem dX11_forgetActs_11 : decode cX11_forgetActs 11 = .ok (.iconst 0, 1) := by decide +kernel
theorem dX11_forgetActs_12 : decode cX11_forgetActs 12 = .ok (.putfield 139, 3) := by decide +kernel
theorem dX11_forgetActs_15 : decode cX11_forgetActs 15 = .ok (.return_, 1) := by decide +kernel
theorem dX11_fault_0 : decode cX11_fault 0 = .ok (.iload_n 1, 1) := by decide +kernel
theorem dX11_fault_1 : decode cX11_fault 1 = .ok (.ifCond .ne 8, 3) := by decide +kernel
theorem dX11_fault_4 : decode cX11_fault 4 = .ok (.aload_n 0, 1) := by decide +kernel
theorem dX11_fault_5 : decode cX11_fault 5 = .ok (.getfield 125, 3) := by decide +kernel
theorem dX11_fault_8 : decode cX11_fault 8 = .ok (.ireturn, 1) := by decide +kernel
theorem dX11_fault_9 : decode cX11_fault 9 = .ok (.iload_n 1, 1) := by decide +kernel
theorem dX11_fault_10 : decode cX11_fault 10 = .ok (.iconst 1, 1) := by decide +kernel
theorem dX11_fault_11 : decode cX11_fault 11 = .ok (.if_icmp .ne 10, 3) := by decide +kernel
theorem dX11_fault_14 : decode cX11_fault 14 = .ok (.aload_n 0, 1) := by decide +kernel
theorem dX11_fault_15 : decode cX11_fault 15 = .ok (.getfield 32, 3) := by decide +kernel
theorem dX11_fault_18 : decode cX11_fault 18 = .ok (.goto 4, 3) := by decide +kernel
theorem dX11_fault_21 : decode cX11_fault 21 = .ok (.iconst (-1), 1) := by decide +kernel
theorem dX11_fault_22 : decode cX11_fault 22 = .ok (.ireturn, 1) := by decide +kernel
theorem dX11_has_0 : decode cX11_has 0 = .ok (.iload_n 1, 1) := by decide +kernel
theorem dX11_has_1 : decode cX11_has 1 = .ok (.tableswitch 144 0 10 #[59, 67, 75, 83, 91, 99, 107, 115, 123, 131, 139], 59) := by decide +kernel
theorem dX11_has_60 : decode cX11_has 60 = .ok (.aload_n 0, 1) := by decide +kernel
theorem dX11_has_61 : decode cX11_has 61 = .ok (.getfield 16, 3) := by decide +kernel
theorem dX11_has_64 : decode cX11_has 64 = .ok (.getfield 142, 3) := by decide +kernel
theorem dX11_has_67 : decode cX11_has 67 = .ok (.ireturn, 1) := by decide +kernel
theorem dX11_has_68 : decode cX11_has 68 = .ok (.aload_n 0, 1) := by decide +kernel
theorem dX11_has_69 : decode cX11_has 69 = .ok (.getfield 16, 3) := by decide +kernel
theorem dX11_has_72 : decode cX11_has 72 = .ok (.getfield 145, 3) := by decide +kernel
theorem dX11_has_75 : decode cX11_has 75 = .ok (.ireturn, 1) := by decide +kernel
theorem dX11_has_76 : decode cX11_has 76 = .ok (.aload_n 0, 1) := by decide +kernel
theorem dX11_has_77 : decode cX11_has 77 = .ok (.getfield 16, 3) := by decide +kernel
theorem dX11_has_80 : decode cX11_has 80 = .ok (.getfield 148, 3) := by decide +kernel
theorem dX11_has_83 : decode cX11_has 83 = .ok (.ireturn, 1) := by decide +kernel
theorem dX11_has_84 : decode cX11_has 84 = .ok (.aload_n 0, 1) := by decide +kernel
theorem dX11_has_85 : decode cX11_has 85 = .ok (.getfield 39, 3) := by decide +kernel
theorem dX11_has_88 : decode cX11_has 88 = .ok (.getfield 151, 3) := by decide +kernel
theorem dX11_has_91 : decode cX11_has 91 = .ok (.ireturn, 1) := by decide +kernel
theorem dX11_has_92 : decode cX11_has 92 = .ok (.aload_n 0, 1) := by decide +kernel
theorem dX11_has_93 : decode cX11_has 93 = .ok (.getfield 39, 3) := by decide +kernel
theorem dX11_has_96 : decode cX11_has 96 = .ok (.invokevirtual 154, 3) := by decide +kernel
theorem dX11_has_99 : decode cX11_has 99 = .ok (.ireturn, 1) := by decide +kernel
theorem dX11_has_100 : decode cX11_has 100 = .ok (.aload_n 0, 1) := by decide +kernel
theorem dX11_has_101 : decode cX11_has 101 = .ok (.getfield 39, 3) := by decide +kernel
theorem dX11_has_104 : decode cX11_has 104 = .ok (.invokevirtual 157, 3) := by decide +kernel
theorem dX11_has_107 : decode cX11_has 107 = .ok (.ireturn, 1) := by decide +kernel
theorem dX11_has_108 : decode cX11_has 108 = .ok (.aload_n 0, 1) := by decide +kernel
theorem dX11_has_109 : decode cX11_has 109 = .ok (.getfield 39, 3) := by decide +kernel
theorem dX11_has_112 : decode cX11_has 112 = .ok (.invokevirtual 160, 3) := by decide +kernel
theorem dX11_has_115 : decode cX11_has 115 = .ok (.ireturn, 1) := by decide +kernel
theorem dX11_has_116 : decode cX11_has 116 = .ok (.aload_n 0, 1) := by decide +kernel
theorem dX11_has_117 : decode cX11_has 117 = .ok (.getfield 39, 3) := by decide +kernel
theorem dX11_has_120 : decode cX11_has 120 = .ok (.invokevirtual 163, 3) := by decide +kernel
theorem dX11_has_123 : decode cX11_has 123 = .ok (.ireturn, 1) := by decide +kernel
theorem dX11_has_124 : decode cX11_has 124 = .ok (.aload_n 0, 1) := by decide +kernel
theorem dX11_has_125 : decode cX11_has 125 = .ok (.getfield 56, 3) := by decide +kernel
theorem dX11_has_128 : decode cX11_has 128 = .ok (.invokevirtual 166, 3) := by decide +kernel
theorem dX11_has_131 : decode cX11_has 131 = .ok (.ireturn, 1) := by decide +kernel
theorem dX11_has_132 : decode cX11_has 132 = .ok (.aload_n 0, 1) := by decide +kernel
theorem dX11_has_133 : decode cX11_has 133 = .ok (.getfield 49, 3) := by decide +kernel
theorem dX11_has_136 : decode cX11_has 136 = .ok (.getfield 169, 3) := by decide +kernel
theorem dX11_has_139 : decode cX11_has 139 = .ok (.ireturn, 1) := by decide +kernel
theorem dX11_has_140 : decode cX11_has 140 = .ok (.aload_n 0, 1) := by decide +kernel
theorem dX11_has_141 : decode cX11_has 141 = .ok (.getfield 87, 3) := by decide +kernel
theorem dX11_has_144 : decode cX11_has 144 = .ok (.ireturn, 1) := by decide +kernel
theorem dX11_has_145 : decode cX11_has 145 = .ok (.iconst (-1), 1) := by decide +kernel
theorem dX11_has_146 : decode cX11_has 146 = .ok (.ireturn, 1) := by decide +kernel
theorem dX11_letter_0 : decode cX11_letter 0 = .ok (.iload_n 3, 1) := by decide +kernel
theorem dX11_letter_1 : decode cX11_letter 1 = .ok (.ifCond .lt 8, 3) := by decide +kernel
theorem dX11_letter_4 : decode cX11_letter 4 = .ok (.iload_n 3, 1) := by decide +kernel
theorem dX11_letter_5 : decode cX11_letter 5 = .ok (.iconst 5, 1) := by decide +kernel
theorem dX11_letter_6 : decode cX11_letter 6 = .ok (.if_icmp .le 5, 3) := by decide +kernel
theorem dX11_letter_9 : decode cX11_letter 9 = .ok (.iconst (-1), 1) := by decide +kernel
theorem dX11_letter_10 : decode cX11_letter 10 = .ok (.ireturn, 1) := by decide +kernel
theorem dX11_letter_11 : decode cX11_letter 11 = .ok (.iload_n 1, 1) := by decide +kernel
theorem dX11_letter_12 : decode cX11_letter 12 = .ok (.ifCond .ne 32, 3) := by decide +kernel
theorem dX11_letter_15 : decode cX11_letter 15 = .ok (.aload_n 0, 1) := by decide +kernel
theorem dX11_letter_16 : decode cX11_letter 16 = .ok (.getfield 39, 3) := by decide +kernel
theorem dX11_letter_19 : decode cX11_letter 19 = .ok (.iload_n 2, 1) := by decide +kernel
theorem dX11_letter_20 : decode cX11_letter 20 = .ok (.invokevirtual 172, 3) := by decide +kernel
theorem dX11_letter_23 : decode cX11_letter 23 = .ok (.ifCond .eq 21, 3) := by decide +kernel
theorem dX11_letter_26 : decode cX11_letter 26 = .ok (.aload_n 0, 1) := by decide +kernel
theorem dX11_letter_27 : decode cX11_letter 27 = .ok (.getfield 16, 3) := by decide +kernel
theorem dX11_letter_30 : decode cX11_letter 30 = .ok (.aload_n 0, 1) := by decide +kernel
theorem dX11_letter_31 : decode cX11_letter 31 = .ok (.getfield 16, 3) := by decide +kernel
theorem dX11_letter_34 : decode cX11_letter 34 = .ok (.getfield 176, 3) := by decide +kernel
theorem dX11_letter_37 : decode cX11_letter 37 = .ok (.iload_n 2, 1) := by decide +kernel
theorem dX11_letter_38 : decode cX11_letter 38 = .ok (.iaload, 1) := by decide +kernel
theorem dX11_letter_39 : decode cX11_letter 39 = .ok (.iload_n 3, 1) := by decide +kernel
theorem dX11_letter_40 : decode cX11_letter 40 = .ok (.invokevirtual 179, 3) := by decide +kernel
theorem dX11_letter_43 : decode cX11_letter 43 = .ok (.ireturn, 1) := by decide +kernel
theorem dX11_letter_44 : decode cX11_letter 44 = .ok (.iload_n 1, 1) := by decide +kernel
theorem dX11_letter_45 : decode cX11_letter 45 = .ok (.iconst 1, 1) := by decide +kernel
theorem dX11_letter_46 : decode cX11_letter 46 = .ok (.if_icmp .ne 32, 3) := by decide +kernel
theorem dX11_letter_49 : decode cX11_letter 49 = .ok (.aload_n 0, 1) := by decide +kernel
theorem dX11_letter_50 : decode cX11_letter 50 = .ok (.getfield 39, 3) := by decide +kernel
theorem dX11_letter_53 : decode cX11_letter 53 = .ok (.iload_n 2, 1) := by decide +kernel
theorem dX11_letter_54 : decode cX11_letter 54 = .ok (.invokevirtual 183, 3) := by decide +kernel
theorem dX11_letter_57 : decode cX11_letter 57 = .ok (.ifCond .eq 21, 3) := by decide +kernel
theorem dX11_letter_60 : decode cX11_letter 60 = .ok (.aload_n 0, 1) := by decide +kernel
theorem dX11_letter_61 : decode cX11_letter 61 = .ok (.getfield 16, 3) := by decide +kernel
theorem dX11_letter_64 : decode cX11_letter 64 = .ok (.aload_n 0, 1) := by decide +kernel
theorem dX11_letter_65 : decode cX11_letter 65 = .ok (.getfield 16, 3) := by decide +kernel
theorem dX11_letter_68 : decode cX11_letter 68 = .ok (.getfield 186, 3) := by decide +kernel
theorem dX11_letter_71 : decode cX11_letter 71 = .ok (.iload_n 2, 1) := by decide +kernel
theorem dX11_letter_72 : decode cX11_letter 72 = .ok (.iaload, 1) := by decide +kernel
theorem dX11_letter_73 : decode cX11_letter 73 = .ok (.iload_n 3, 1) := by decide +kernel
theorem dX11_letter_74 : decode cX11_letter 74 = .ok (.invokevirtual 179, 3) := by decide +kernel
theorem dX11_letter_77 : decode cX11_letter 77 = .ok (.ireturn, 1) := by decide +kernel
theorem dX11_letter_78 : decode cX11_letter 78 = .ok (.iload_n 1, 1) := by decide +kernel
theorem dX11_letter_79 : decode cX11_letter 79 = .ok (.iconst 2, 1) := by decide +kernel
theorem dX11_letter_80 : decode cX11_letter 80 = .ok (.if_icmp .ne 32, 3) := by decide +kernel
theorem dX11_letter_83 : decode cX11_letter 83 = .ok (.aload_n 0, 1) := by decide +kernel
theorem dX11_letter_84 : decode cX11_letter 84 = .ok (.getfield 39, 3) := by decide +kernel
theorem dX11_letter_87 : decode cX11_letter 87 = .ok (.iload_n 2, 1) := by decide +kernel
theorem dX11_letter_88 : decode cX11_letter 88 = .ok (.invokevirtual 189, 3) := by decide +kernel
theorem dX11_letter_91 : decode cX11_letter 91 = .ok (.ifCond .eq 21, 3) := by decide +kernel
theorem dX11_letter_94 : decode cX11_letter 94 = .ok (.aload_n 0, 1) := by decide +kernel
theorem dX11_letter_95 : decode cX11_letter 95 = .ok (.getfield 16, 3) := by decide +kernel
theorem dX11_letter_98 : decode cX11_letter 98 = .ok (.aload_n 0, 1) := by decide +kernel
theorem dX11_letter_99 : decode cX11_letter 99 = .ok (.getfield 16, 3) := by decide +kernel
theorem dX11_letter_102 : decode cX11_letter 102 = .ok (.getfield 192, 3) := by decide +kernel
theorem dX11_letter_105 : decode cX11_letter 105 = .ok (.iload_n 2, 1) := by decide +kernel
theorem dX11_letter_106 : decode cX11_letter 106 = .ok (.iaload, 1) := by decide +kernel
theorem dX11_letter_107 : decode cX11_letter 107 = .ok (.iload_n 3, 1) := by decide +kernel
theorem dX11_letter_108 : decode cX11_letter 108 = .ok (.invokevirtual 179, 3) := by decide +kernel
theorem dX11_letter_111 : decode cX11_letter 111 = .ok (.ireturn, 1) := by decide +kernel
theorem dX11_letter_112 : decode cX11_letter 112 = .ok (.iconst (-1), 1) := by decide +kernel
theorem dX11_letter_113 : decode cX11_letter 113 = .ok (.ireturn, 1) := by decide +kernel
theorem dX11_hollow_0 : decode cX11_hollow 0 = .ok (.aload_n 0, 1) := by decide +kernel
theorem dX11_hollow_1 : decode cX11_hollow 1 = .ok (.getfield 39, 3) := by decide +kernel
theorem dX11_hollow_4 : decode cX11_hollow 4 = .ok (.iload_n 1, 1) := by decide +kernel
theorem dX11_hollow_5 : decode cX11_hollow 5 = .ok (.invokevirtual 172, 3) := by decide +kernel
theorem dX11_hollow_8 : decode cX11_hollow 8 = .ok (.ifCond .ne 5, 3) := by decide +kernel
theorem dX11_hollow_11 : decode cX11_hollow 11 = .ok (.iconst (-1), 1) := by decide +kernel
theorem dX11_hollow_12 : decode cX11_hollow 12 = .ok (.ireturn, 1) := by decide +kernel
theorem dX11_hollow_13 : decode cX11_hollow 13 = .ok (.iload_n 2, 1) := by decide +kernel
theorem dX11_hollow_14 : decode cX11_hollow 14 = .ok (.tableswitch 68 0 3 #[30, 40, 50, 59], 30) := by decide +kernel
theorem dX11_hollow_44 : decode cX11_hollow 44 = .ok (.aload_n 0, 1) := by decide +kernel
theorem dX11_hollow_45 : decode cX11_hollow 45 = .ok (.getfield 16, 3) := by decide +kernel
theorem dX11_hollow_48 : decode cX11_hollow 48 = .ok (.getfield 195, 3) := by decide +kernel
theorem dX11_hollow_51 : decode cX11_hollow 51 = .ok (.iload_n 1, 1) := by decide +kernel
theorem dX11_hollow_52 : decode cX11_hollow 52 = .ok (.iaload, 1) := by decide +kernel
theorem dX11_hollow_53 : decode cX11_hollow 53 = .ok (.ireturn, 1) := by decide +kernel
theorem dX11_hollow_54 : decode cX11_hollow 54 = .ok (.aload_n 0, 1) := by decide +kernel
theorem dX11_hollow_55 : decode cX11_hollow 55 = .ok (.getfield 16, 3) := by decide +kernel
theorem dX11_hollow_58 : decode cX11_hollow 58 = .ok (.getfield 198, 3) := by decide +kernel
theorem dX11_hollow_61 : decode cX11_hollow 61 = .ok (.iload_n 1, 1) := by decide +kernel
theorem dX11_hollow_62 : decode cX11_hollow 62 = .ok (.iaload, 1) := by decide +kernel
theorem dX11_hollow_63 : decode cX11_hollow 63 = .ok (.ireturn, 1) := by decide +kernel
theorem dX11_hollow_64 : decode cX11_hollow 64 = .ok (.aload_n 0, 1) := by decide +kernel
theorem dX11_hollow_65 : decode cX11_hollow 65 = .ok (.getfield 39, 3) := by decide +kernel
theorem dX11_hollow_68 : decode cX11_hollow 68 = .ok (.iload_n 1, 1) := by decide +kernel
theorem dX11_hollow_69 : decode cX11_hollow 69 = .ok (.invokevirtual 201, 3) := by decide +kernel
theorem dX11_hollow_72 : decode cX11_hollow 72 = .ok (.ireturn, 1) := by decide +kernel
theorem dX11_hollow_73 : decode cX11_hollow 73 = .ok (.aload_n 0, 1) := by decide +kernel
theorem dX11_hollow_74 : decode cX11_hollow 74 = .ok (.getfield 39, 3) := by decide +kernel
theorem dX11_hollow_77 : decode cX11_hollow 77 = .ok (.iload_n 1, 1) := by decide +kernel
theorem dX11_hollow_78 : decode cX11_hollow 78 = .ok (.invokevirtual 204, 3) := by decide +kernel
theorem dX11_hollow_81 : decode cX11_hollow 81 = .ok (.ireturn, 1) := by decide +kernel
theorem dX11_hollow_82 : decode cX11_hollow 82 = .ok (.iconst (-1), 1) := by decide +kernel
theorem dX11_hollow_83 : decode cX11_hollow 83 = .ok (.ireturn, 1) := by decide +kernel
theorem dX11_lake_0 : decode cX11_lake 0 = .ok (.aload_n 0, 1) := by decide +kernel
theorem dX11_lake_1 : decode cX11_lake 1 = .ok (.getfield 39, 3) := by decide +kernel
theorem dX11_lake_4 : decode cX11_lake 4 = .ok (.iload_n 1, 1) := by decide +kernel
theorem dX11_lake_5 : decode cX11_lake 5 = .ok (.invokevirtual 189, 3) := by decide +kernel
theorem dX11_lake_8 : decode cX11_lake 8 = .ok (.ifCond .ne 5, 3) := by decide +kernel
theorem dX11_lake_11 : decode cX11_lake 11 = .ok (.iconst (-1), 1) := by decide +kernel
theorem dX11_lake_12 : decode cX11_lake 12 = .ok (.ireturn, 1) := by decide +kernel
theorem dX11_lake_13 : decode cX11_lake 13 = .ok (.iload_n 2, 1) := by decide +kernel
theorem dX11_lake_14 : decode cX11_lake 14 = .ok (.tableswitch 83 0 4 #[34, 44, 54, 64, 73], 34) := by decide +kernel
theorem dX11_lake_48 : decode cX11_lake 48 = .ok (.aload_n 0, 1) := by decide +kernel
theorem dX11_lake_49 : decode cX11_lake 49 = .ok (.getfield 39, 3) := by decide +kernel
theorem dX11_lake_52 : decode cX11_lake 52 = .ok (.getfield 207, 3) := by decide +kernel
theorem dX11_lake_55 : decode cX11_lake 55 = .ok (.iload_n 1, 1) := by decide +kernel
theorem dX11_lake_56 : decode cX11_lake 56 = .ok (.iaload, 1) := by decide +kernel
theorem dX11_lake_57 : decode cX11_lake 57 = .ok (.ireturn, 1) := by decide +kernel
theorem dX11_lake_58 : decode cX11_lake 58 = .ok (.aload_n 0, 1) := by decide +kernel
theorem dX11_lake_59 : decode cX11_lake 59 = .ok (.getfield 39, 3) := by decide +kernel
theorem dX11_lake_62 : decode cX11_lake 62 = .ok (.getfield 210, 3) := by decide +kernel
theorem dX11_lake_65 : decode cX11_lake 65 = .ok (.iload_n 1, 1) := by decide +kernel
theorem dX11_lake_66 : decode cX11_lake 66 = .ok (.iaload, 1) := by decide +kernel
theorem dX11_lake_67 : decode cX11_lake 67 = .ok (.ireturn, 1) := by decide +kernel
theorem dX11_lake_68 : decode cX11_lake 68 = .ok (.aload_n 0, 1) := by decide +kernel
theorem dX11_lake_69 : decode cX11_lake 69 = .ok (.getfield 39, 3) := by decide +kernel
theorem dX11_lake_72 : decode cX11_lake 72 = .ok (.getfield 213, 3) := by decide +kernel
theorem dX11_lake_75 : decode cX11_lake 75 = .ok (.iload_n 1, 1) := by decide +kernel
theorem dX11_lake_76 : decode cX11_lake 76 = .ok (.iaload, 1) := by decide +kernel
theorem dX11_lake_77 : decode cX11_lake 77 = .ok (.ireturn, 1) := by decide +kernel
theorem dX11_lake_78 : decode cX11_lake 78 = .ok (.aload_n 0, 1) := by decide +kernel
theorem dX11_lake_79 : decode cX11_lake 79 = .ok (.getfield 39, 3) := by decide +kernel
theorem dX11_lake_82 : decode cX11_lake 82 = .ok (.iload_n 1, 1) := by decide +kernel
theorem dX11_lake_83 : decode cX11_lake 83 = .ok (.invokevirtual 216, 3) := by decide +kernel
theorem dX11_lake_86 : decode cX11_lake 86 = .ok (.ireturn, 1) := by decide +kernel
theorem dX11_lake_87 : decode cX11_lake 87 = .ok (.aload_n 0, 1) := by decide +kernel
theorem dX11_lake_88 : decode cX11_lake 88 = .ok (.getfield 39, 3) := by decide +kernel
theorem dX11_lake_91 : decode cX11_lake 91 = .ok (.iload_n 1, 1) := by decide +kernel
theorem dX11_lake_92 : decode cX11_lake 92 = .ok (.iconst 0, 1) := by decide +kernel
theorem dX11_lake_93 : decode cX11_lake 93 = .ok (.invokevirtual 219, 3) := by decide +kernel
theorem dX11_lake_96 : decode cX11_lake 96 = .ok (.ireturn, 1) := by decide +kernel
theorem dX11_lake_97 : decode cX11_lake 97 = .ok (.iconst (-1), 1) := by decide +kernel
theorem dX11_lake_98 : decode cX11_lake 98 = .ok (.ireturn, 1) := by decide +kernel
theorem dX11_owner_0 : decode cX11_owner 0 = .ok (.aload_n 0, 1) := by decide +kernel
theorem dX11_owner_1 : decode cX11_owner 1 = .ok (.getfield 39, 3) := by decide +kernel
theorem dX11_owner_4 : decode cX11_owner 4 = .ok (.iload_n 1, 1) := by decide +kernel
theorem dX11_owner_5 : decode cX11_owner 5 = .ok (.invokevirtual 183, 3) := by decide +kernel
theorem dX11_owner_8 : decode cX11_owner 8 = .ok (.ifCond .ne 5, 3) := by decide +kernel
theorem dX11_owner_11 : decode cX11_owner 11 = .ok (.iconst (-1), 1) := by decide +kernel
theorem dX11_owner_12 : decode cX11_owner 12 = .ok (.ireturn, 1) := by decide +kernel
theorem dX11_owner_13 : decode cX11_owner 13 = .ok (.iload_n 2, 1) := by decide +kernel
theorem dX11_owner_14 : decode cX11_owner 14 = .ok (.tableswitch 87 0 4 #[34, 43, 52, 61, 70], 34) := by decide +kernel
theorem dX11_owner_48 : decode cX11_owner 48 = .ok (.aload_n 0, 1) := by decide +kernel
theorem dX11_owner_49 : decode cX11_owner 49 = .ok (.getfield 39, 3) := by decide +kernel
theorem dX11_owner_52 : decode cX11_owner 52 = .ok (.iload_n 1, 1) := by decide +kernel
theorem dX11_owner_53 : decode cX11_owner 53 = .ok (.invokevirtual 222, 3) := by decide +kernel
theorem dX11_owner_56 : decode cX11_owner 56 = .ok (.ireturn, 1) := by decide +kernel
theorem dX11_owner_57 : decode cX11_owner 57 = .ok (.aload_n 0, 1) := by decide +kernel
theorem dX11_owner_58 : decode cX11_owner 58 = .ok (.getfield 39, 3) := by decide +kernel
theorem dX11_owner_61 : decode cX11_owner 61 = .ok (.iload_n 1, 1) := by decide +kernel
theorem dX11_owner_62 : decode cX11_owner 62 = .ok (.invokevirtual 225, 3) := by decide +kernel
theorem dX11_owner_65 : decode cX11_owner 65 = .ok (.ireturn, 1) := by decide +kernel
theorem dX11_owner_66 : decode cX11_owner 66 = .ok (.aload_n 0, 1) := by decide +kernel
theorem dX11_owner_67 : decode cX11_owner 67 = .ok (.getfield 39, 3) := by decide +kernel
theorem dX11_owner_70 : decode cX11_owner 70 = .ok (.iload_n 1, 1) := by decide +kernel
theorem dX11_owner_71 : decode cX11_owner 71 = .ok (.invokevirtual 228, 3) := by decide +kernel
theorem dX11_owner_74 : decode cX11_owner 74 = .ok (.ireturn, 1) := by decide +kernel
theorem dX11_owner_75 : decode cX11_owner 75 = .ok (.aload_n 0, 1) := by decide +kernel
theorem dX11_owner_76 : decode cX11_owner 76 = .ok (.getfield 39, 3) := by decide +kernel
theorem dX11_owner_79 : decode cX11_owner 79 = .ok (.iload_n 1, 1) := by decide +kernel
theorem dX11_owner_80 : decode cX11_owner 80 = .ok (.invokevirtual 231, 3) := by decide +kernel
theorem dX11_owner_83 : decode cX11_owner 83 = .ok (.ireturn, 1) := by decide +kernel
theorem dX11_owner_84 : decode cX11_owner 84 = .ok (.aload_n 0, 1) := by decide +kernel
theorem dX11_owner_85 : decode cX11_owner 85 = .ok (.getfield 39, 3) := by decide +kernel
theorem dX11_owner_88 : decode cX11_owner 88 = .ok (.iload_n 1, 1) := by decide +kernel
theorem dX11_owner_89 : decode cX11_owner 89 = .ok (.invokevirtual 234, 3) := by decide +kernel
theorem dX11_owner_92 : decode cX11_owner 92 = .ok (.ifCond .eq 7, 3) := by decide +kernel
theorem dX11_owner_95 : decode cX11_owner 95 = .ok (.iconst 1, 1) := by decide +kernel
theorem dX11_owner_96 : decode cX11_owner 96 = .ok (.goto 4, 3) := by decide +kernel
theorem dX11_owner_99 : decode cX11_owner 99 = .ok (.iconst 0, 1) := by decide +kernel
theorem dX11_owner_100 : decode cX11_owner 100 = .ok (.ireturn, 1) := by decide +kernel
theorem dX11_owner_101 : decode cX11_owner 101 = .ok (.iconst (-1), 1) := by decide +kernel
theorem dX11_owner_102 : decode cX11_owner 102 = .ok (.ireturn, 1) := by decide +kernel
theorem dX11_owes_0 : decode cX11_owes 0 = .ok (.aload_n 0, 1) := by decide +kernel
theorem dX11_owes_1 : decode cX11_owes 1 = .ok (.getfield 39, 3) := by decide +kernel
theorem dX11_owes_4 : decode cX11_owes 4 = .ok (.iload_n 1, 1) := by decide +kernel
theorem dX11_owes_5 : decode cX11_owes 5 = .ok (.iload_n 2, 1) := by decide +kernel
theorem dX11_owes_6 : decode cX11_owes 6 = .ok (.invokevirtual 237, 3) := by decide +kernel
theorem dX11_owes_9 : decode cX11_owes 9 = .ok (.ifCond .ne 5, 3) := by decide +kernel
theorem dX11_owes_12 : decode cX11_owes 12 = .ok (.iconst (-1), 1) := by decide +kernel
theorem dX11_owes_13 : decode cX11_owes 13 = .ok (.ireturn, 1) := by decide +kernel
theorem dX11_owes_14 : decode cX11_owes 14 = .ok (.aload_n 0, 1) := by decide +kernel
theorem dX11_owes_15 : decode cX11_owes 15 = .ok (.getfield 39, 3) := by decide +kernel
theorem dX11_owes_18 : decode cX11_owes 18 = .ok (.getfield 241, 3) := by decide +kernel
theorem dX11_owes_21 : decode cX11_owes 21 = .ok (.iload_n 1, 1) := by decide +kernel
theorem dX11_owes_22 : decode cX11_owes 22 = .ok (.bipush 6, 2) := by decide +kernel
theorem dX11_owes_24 : decode cX11_owes 24 = .ok (.imul, 1) := by decide +kernel
theorem dX11_owes_25 : decode cX11_owes 25 = .ok (.iload_n 2, 1) := by decide +kernel
theorem dX11_owes_26 : decode cX11_owes 26 = .ok (.iadd, 1) := by decide +kernel
theorem dX11_owes_27 : decode cX11_owes 27 = .ok (.iaload, 1) := by decide +kernel
theorem dX11_owes_28 : decode cX11_owes 28 = .ok (.ireturn, 1) := by decide +kernel
theorem dX11_nightsCanBe_0 : decode cX11_nightsCanBe 0 = .ok (.iload_n 1, 1) := by decide +kernel
theorem dX11_nightsCanBe_1 : decode cX11_nightsCanBe 1 = .ok (.ifCond .lt 28, 3) := by decide +kernel
theorem dX11_nightsCanBe_4 : decode cX11_nightsCanBe 4 = .ok (.iload_n 1, 1) := by decide +kernel
theorem dX11_nightsCanBe_5 : decode cX11_nightsCanBe 5 = .ok (.bipush 100, 2) := by decide +kernel
theorem dX11_nightsCanBe_7 : decode cX11_nightsCanBe 7 = .ok (.if_icmp .gt 22, 3) := by decide +kernel
theorem dX11_nightsCanBe_10 : decode cX11_nightsCanBe 10 = .ok (.aload_n 0, 1) := by decide +kernel
theorem dX11_nightsCanBe_11 : decode cX11_nightsCanBe 11 = .ok (.getfield 39, 3) := by decide +kernel
theorem dX11_nightsCanBe_14 : decode cX11_nightsCanBe 14 = .ok (.getfield 151, 3) := by decide +kernel
theorem dX11_nightsCanBe_17 : decode cX11_nightsCanBe 17 = .ok (.iload_n 1, 1) := by decide +kernel
theorem dX11_nightsCanBe_18 : decode cX11_nightsCanBe 18 = .ok (.iadd, 1) := by decide +kernel
theorem dX11_nightsCanBe_19 : decode cX11_nightsCanBe 19 = .ok (.sipush 9999, 3) := by decide +kernel
theorem dX11_nightsCanBe_22 : decode cX11_nightsCanBe 22 = .ok (.if_icmp .gt 7, 3) := by decide +kernel
theorem dX11_nightsCanBe_25 : decode cX11_nightsCanBe 25 = .ok (.iconst 1, 1) := by decide +kernel
theorem dX11_nightsCanBe_26 : decode cX11_nightsCanBe 26 = .ok (.goto 4, 3) := by decide +kernel
theorem dX11_nightsCanBe_29 : decode cX11_nightsCanBe 29 = .ok (.iconst 0, 1) := by decide +kernel
theorem dX11_nightsCanBe_30 : decode cX11_nightsCanBe 30 = .ok (.ireturn, 1) := by decide +kernel
theorem dX11_later_0 : decode cX11_later 0 = .ok (.aload_n 0, 1) := by decide +kernel
theorem dX11_later_1 : decode cX11_later 1 = .ok (.iload_n 1, 1) := by decide +kernel
theorem dX11_later_2 : decode cX11_later 2 = .ok (.invokevirtual 244, 3) := by decide +kernel
theorem dX11_later_5 : decode cX11_later 5 = .ok (.ifCond .eq 19, 3) := by decide +kernel
theorem dX11_later_8 : decode cX11_later 8 = .ok (.iload_n 2, 1) := by decide +kernel
theorem dX11_later_9 : decode cX11_later 9 = .ok (.iconst (-1), 1) := by decide +kernel
theorem dX11_later_10 : decode cX11_later 10 = .ok (.if_icmp .eq 16, 3) := by decide +kernel
theorem dX11_later_13 : decode cX11_later 13 = .ok (.aload_n 0, 1) := by decide +kernel
theorem dX11_later_14 : decode cX11_later 14 = .ok (.getfield 39, 3) := by decide +kernel
theorem dX11_later_17 : decode cX11_later 17 = .ok (.iload_n 2, 1) := by decide +kernel
theorem dX11_later_18 : decode cX11_later 18 = .ok (.invokevirtual 189, 3) := by decide +kernel
theorem dX11_later_21 : decode cX11_later 21 = .ok (.ifCond .ne 5, 3) := by decide +kernel
theorem dX11_later_24 : decode cX11_later 24 = .ok (.iconst (-1), 1) := by decide +kernel
theorem dX11_later_25 : decode cX11_later 25 = .ok (.ireturn, 1) := by decide +kernel
theorem dX11_later_26 : decode cX11_later 26 = .ok (.aload_n 0, 1) := by decide +kernel
theorem dX11_later_27 : decode cX11_later 27 = .ok (.getfield 43, 3) := by decide +kernel
theorem dX11_later_30 : decode cX11_later 30 = .ok (.aload_n 0, 1) := by decide +kernel
theorem dX11_later_31 : decode cX11_later 31 = .ok (.getfield 39, 3) := by decide +kernel
theorem dX11_later_34 : decode cX11_later 34 = .ok (.invokevirtual 247, 3) := by decide +kernel
theorem dX11_later_37 : decode cX11_later 37 = .ok (.iconst 0, 1) := by decide +kernel
theorem dX11_later_38 : decode cX11_later 38 = .ok (.istore_n 3, 1) := by decide +kernel
theorem dX11_later_39 : decode cX11_later 39 = .ok (.iload_n 3, 1) := by decide +kernel
theorem dX11_later_40 : decode cX11_later 40 = .ok (.iload_n 1, 1) := by decide +kernel
theorem dX11_later_41 : decode cX11_later 41 = .ok (.if_icmp .ge 18, 3) := by decide +kernel
theorem dX11_later_44 : decode cX11_later 44 = .ok (.aload_n 0, 1) := by decide +kernel
theorem dX11_later_45 : decode cX11_later 45 = .ok (.getfield 43, 3) := by decide +kernel
theorem dX11_later_48 : decode cX11_later 48 = .ok (.iconst 0, 1) := by decide +kernel
theorem dX11_later_49 : decode cX11_later 49 = .ok (.invokevirtual 251, 3) := by decide +kernel
theorem dX11_later_52 : decode cX11_later 52 = .ok (.pop, 1) := by decide +kernel
theorem dX11_later_53 : decode cX11_later 53 = .ok (.iinc 3 1, 3) := by decide +kernel
theorem dX11_later_56 : decode cX11_later 56 = .ok (.goto (-17), 3) := by decide +kernel
theorem dX11_later_59 : decode cX11_later 59 = .ok (.iload_n 2, 1) := by decide +kernel
theorem dX11_later_60 : decode cX11_later 60 = .ok (.iconst (-1), 1) := by decide +kernel
theorem dX11_later_61 : decode cX11_later 61 = .ok (.if_icmp .ne 13, 3) := by decide +kernel
theorem dX11_later_64 : decode cX11_later 64 = .ok (.aload_n 0, 1) := by decide +kernel
theorem dX11_later_65 : decode cX11_later 65 = .ok (.getfield 43, 3) := by decide +kernel
theorem dX11_later_68 : decode cX11_later 68 = .ok (.invokevirtual 160, 3) := by decide +kernel
theorem dX11_later_71 : decode cX11_later 71 = .ok (.goto 12, 3) := by decide +kernel
theorem dX11_later_74 : decode cX11_later 74 = .ok (.aload_n 0, 1) := by decide +kernel
theorem dX11_later_75 : decode cX11_later 75 = .ok (.getfield 43, 3) := by decide +kernel
theorem dX11_later_78 : decode cX11_later 78 = .ok (.getfield 207, 3) := by decide +kernel
theorem dX11_later_81 : decode cX11_later 81 = .ok (.iload_n 2, 1) := by decide +kernel
theorem dX11_later_82 : decode cX11_later 82 = .ok (.iaload, 1) := by decide +kernel
theorem dX11_later_83 : decode cX11_later 83 = .ok (.ireturn, 1) := by decide +kernel
theorem dX11_broke_0 : decode cX11_broke 0 = .ok (.aload_n 0, 1) := by decide +kernel
theorem dX11_broke_1 : decode cX11_broke 1 = .ok (.getfield 39, 3) := by decide +kernel
theorem dX11_broke_4 : decode cX11_broke 4 = .ok (.iload_n 1, 1) := by decide +kernel
theorem dX11_broke_5 : decode cX11_broke 5 = .ok (.invokevirtual 183, 3) := by decide +kernel
theorem dX11_broke_8 : decode cX11_broke 8 = .ok (.ifCond .eq 14, 3) := by decide +kernel
theorem dX11_broke_11 : decode cX11_broke 11 = .ok (.aload_n 0, 1) := by decide +kernel
theorem dX11_broke_12 : decode cX11_broke 12 = .ok (.getfield 39, 3) := by decide +kernel
theorem dX11_broke_15 : decode cX11_broke 15 = .ok (.iload_n 1, 1) := by decide +kernel
theorem dX11_broke_16 : decode cX11_broke 16 = .ok (.invokevirtual 228, 3) := by decide +kernel
theorem dX11_broke_19 : decode cX11_broke 19 = .ok (.ifCond .ne 5, 3) := by decide +kernel
theorem dX11_broke_22 : decode cX11_broke 22 = .ok (.iconst (-1), 1) := by decide +kernel
theorem dX11_broke_23 : decode cX11_broke 23 = .ok (.ireturn, 1) := by decide +kernel
theorem dX11_broke_24 : decode cX11_broke 24 = .ok (.aload_n 0, 1) := by decide +kernel
theorem dX11_broke_25 : decode cX11_broke 25 = .ok (.getfield 43, 3) := by decide +kernel
theorem dX11_broke_28 : decode cX11_broke 28 = .ok (.aload_n 0, 1) := by decide +kernel
theorem dX11_broke_29 : decode cX11_broke 29 = .ok (.getfield 39, 3) := by decide +kernel
theorem dX11_broke_32 : decode cX11_broke 32 = .ok (.invokevirtual 247, 3) := by decide +kernel
theorem dX11_broke_35 : decode cX11_broke 35 = .ok (.iconst 0, 1) := by decide +kernel
theorem dX11_broke_36 : decode cX11_broke 36 = .ok (.istore_n 2, 1) := by decide +kernel
theorem dX11_broke_37 : decode cX11_broke 37 = .ok (.iload_n 2, 1) := by decide +kernel
theorem dX11_broke_38 : decode cX11_broke 38 = .ok (.bipush 100, 2) := by decide +kernel
theorem dX11_broke_40 : decode cX11_broke 40 = .ok (.if_icmp .gt 39, 3) := by decide +kernel
theorem dX11_broke_43 : decode cX11_broke 43 = .ok (.aload_n 0, 1) := by decide +kernel
theorem dX11_broke_44 : decode cX11_broke 44 = .ok (.iload_n 2, 1) := by decide +kernel
theorem dX11_broke_45 : decode cX11_broke 45 = .ok (.invokevirtual 244, 3) := by decide +kernel
theorem dX11_broke_48 : decode cX11_broke 48 = .ok (.ifCond .eq 31, 3) := by decide +kernel
theorem dX11_broke_51 : decode cX11_broke 51 = .ok (.aload_n 0, 1) := by decide +kernel
theorem dX11_broke_52 : decode cX11_broke 52 = .ok (.getfield 43, 3) := by decide +kernel
theorem dX11_broke_55 : decode cX11_broke 55 = .ok (.iload_n 1, 1) := by decide +kernel
theorem dX11_broke_56 : decode cX11_broke 56 = .ok (.invokevirtual 234, 3) := by decide +kernel
theorem dX11_broke_59 : decode cX11_broke 59 = .ok (.ifCond .eq 5, 3) := by decide +kernel
theorem dX11_broke_62 : decode cX11_broke 62 = .ok (.iload_n 2, 1) := by decide +kernel
theorem dX11_broke_63 : decode cX11_broke 63 = .ok (.ireturn, 1) := by decide +kernel
theorem dX11_broke_64 : decode cX11_broke 64 = .ok (.aload_n 0, 1) := by decide +kernel
theorem dX11_broke_65 : decode cX11_broke 65 = .ok (.getfield 43, 3) := by decide +kernel
theorem dX11_broke_68 : decode cX11_broke 68 = .ok (.iconst 0, 1) := by decide +kernel
theorem dX11_broke_69 : decode cX11_broke 69 = .ok (.invokevirtual 251, 3) := by decide +kernel
theorem dX11_broke_72 : decode cX11_broke 72 = .ok (.pop, 1) := by decide +kernel
theorem dX11_broke_73 : decode cX11_broke 73 = .ok (.iinc 2 1, 3) := by decide +kernel
theorem dX11_broke_76 : decode cX11_broke 76 = .ok (.goto (-39), 3) := by decide +kernel
theorem dX11_broke_79 : decode cX11_broke 79 = .ok (.iconst (-1), 1) := by decide +kernel
theorem dX11_broke_80 : decode cX11_broke 80 = .ok (.ireturn, 1) := by decide +kernel
theorem dX11_spend_0 : decode cX11_spend 0 = .ok (.aload_n 0, 1) := by decide +kernel
theorem dX11_spend_1 : decode cX11_spend 1 = .ok (.getfield 39, 3) := by decide +kernel
theorem dX11_spend_4 : decode cX11_spend 4 = .ok (.iload_n 1, 1) := by decide +kernel
theorem dX11_spend_5 : decode cX11_spend 5 = .ok (.invokevirtual 254, 3) := by decide +kernel
theorem dX11_spend_8 : decode cX11_spend 8 = .ok (.ifCond .eq 12, 3) := by decide +kernel
theorem dX11_spend_11 : decode cX11_spend 11 = .ok (.iload_n 2, 1) := by decide +kernel
theorem dX11_spend_12 : decode cX11_spend 12 = .ok (.ifCond .lt 8, 3) := by decide +kernel
theorem dX11_spend_15 : decode cX11_spend 15 = .ok (.iload_n 2, 1) := by decide +kernel
theorem dX11_spend_16 : decode cX11_spend 16 = .ok (.iconst 1, 1) := by decide +kernel
theorem dX11_spend_17 : decode cX11_spend 17 = .ok (.if_icmp .le 5, 3) := by decide +kernel
theorem dX11_spend_20 : decode cX11_spend 20 = .ok (.iconst (-1), 1) := by decide +kernel
theorem dX11_spend_21 : decode cX11_spend 21 = .ok (.ireturn, 1) := by decide +kernel
theorem dX11_spend_22 : decode cX11_spend 22 = .ok (.aload_n 0, 1) := by decide +kernel
theorem dX11_spend_23 : decode cX11_spend 23 = .ok (.getfield 43, 3) := by decide +kernel
theorem dX11_spend_26 : decode cX11_spend 26 = .ok (.aload_n 0, 1) := by decide +kernel
theorem dX11_spend_27 : decode cX11_spend 27 = .ok (.getfield 39, 3) := by decide +kernel
theorem dX11_spend_30 : decode cX11_spend 30 = .ok (.invokevirtual 247, 3) := by decide +kernel
theorem dX11_spend_33 : decode cX11_spend 33 = .ok (.iconst (-1), 1) := by decide +kernel
theorem dX11_spend_34 : decode cX11_spend 34 = .ok (.istore_n 3, 1) := by decide +kernel
theorem dX11_spend_35 : decode cX11_spend 35 = .ok (.iconst 0, 1) := by decide +kernel
theorem dX11_spend_36 : decode cX11_spend 36 = .ok (.istore 4, 2) := by decide +kernel
theorem dX11_spend_38 : decode cX11_spend 38 = .ok (.iconst 0, 1) := by decide +kernel
theorem dX11_spend_39 : decode cX11_spend 39 = .ok (.istore 5, 2) := by decide +kernel
theorem dX11_spend_41 : decode cX11_spend 41 = .ok (.iload 5, 2) := by decide +kernel
theorem dX11_spend_43 : decode cX11_spend 43 = .ok (.bipush 100, 2) := by decide +kernel
theorem dX11_spend_45 : decode cX11_spend 45 = .ok (.if_icmp .gt 50, 3) := by decide +kernel
theorem dX11_spend_48 : decode cX11_spend 48 = .ok (.aload_n 0, 1) := by decide +kernel
theorem dX11_spend_49 : decode cX11_spend 49 = .ok (.iload 5, 2) := by decide +kernel
theorem dX11_spend_51 : decode cX11_spend 51 = .ok (.invokevirtual 244, 3) := by decide +kernel
theorem dX11_spend_54 : decode cX11_spend 54 = .ok (.ifCond .eq 41, 3) := by decide +kernel
theorem dX11_spend_57 : decode cX11_spend 57 = .ok (.aload_n 0, 1) := by decide +kernel
theorem dX11_spend_58 : decode cX11_spend 58 = .ok (.getfield 43, 3) := by decide +kernel
theorem dX11_spend_61 : decode cX11_spend 61 = .ok (.iload_n 1, 1) := by decide +kernel
theorem dX11_spend_62 : decode cX11_spend 62 = .ok (.invokevirtual 216, 3) := by decide +kernel
theorem dX11_spend_65 : decode cX11_spend 65 = .ok (.istore 6, 2) := by decide +kernel
theorem dX11_spend_67 : decode cX11_spend 67 = .ok (.iload 6, 2) := by decide +kernel
theorem dX11_spend_69 : decode cX11_spend 69 = .ok (.iload_n 3, 1) := by decide +kernel
theorem dX11_spend_70 : decode cX11_spend 70 = .ok (.if_icmp .le 10, 3) := by decide +kernel
theorem dX11_spend_73 : decode cX11_spend 73 = .ok (.iload 6, 2) := by decide +kernel
theorem dX11_spend_75 : decode cX11_spend 75 = .ok (.istore_n 3, 1) := by decide +kernel
theorem dX11_spend_76 : decode cX11_spend 76 = .ok (.iload 5, 2) := by decide +kernel
theorem dX11_spend_78 : decode cX11_spend 78 = .ok (.istore 4, 2) := by decide +kernel
theorem dX11_spend_80 : decode cX11_spend 80 = .ok (.aload_n 0, 1) := by decide +kernel
theorem dX11_spend_81 : decode cX11_spend 81 = .ok (.getfield 43, 3) := by decide +kernel
theorem dX11_spend_84 : decode cX11_spend 84 = .ok (.iconst 0, 1) := by decide +kernel
theorem dX11_spend_85 : decode cX11_spend 85 = .ok (.invokevirtual 251, 3) := by decide +kernel
theorem dX11_spend_88 : decode cX11_spend 88 = .ok (.pop, 1) := by decide +kernel
theorem dX11_spend_89 : decode cX11_spend 89 = .ok (.iinc 5 1, 3) := by decide +kernel
theorem dX11_spend_92 : decode cX11_spend 92 = .ok (.goto (-51), 3) := by decide +kernel
theorem dX11_spend_95 : decode cX11_spend 95 = .ok (.iload_n 2, 1) := by decide +kernel
theorem dX11_spend_96 : decode cX11_spend 96 = .ok (.ifCond .ne 8, 3) := by decide +kernel
theorem dX11_spend_99 : decode cX11_spend 99 = .ok (.iload 4, 2) := by decide +kernel
theorem dX11_spend_101 : decode cX11_spend 101 = .ok (.goto 4, 3) := by decide +kernel
theorem dX11_spend_104 : decode cX11_spend 104 = .ok (.iload_n 3, 1) := by decide +kernel
theorem dX11_spend_105 : decode cX11_spend 105 = .ok (.ireturn, 1) := by decide +kernel
theorem dX11_price_0 : decode cX11_price 0 = .ok (.aload_n 0, 1) := by decide +kernel
theorem dX11_price_1 : decode cX11_price 1 = .ok (.getfield 39, 3) := by decide +kernel
theorem dX11_price_4 : decode cX11_price 4 = .ok (.iload_n 1, 1) := by decide +kernel
theorem dX11_price_5 : decode cX11_price 5 = .ok (.invokevirtual 183, 3) := by decide +kernel
theorem dX11_price_8 : decode cX11_price 8 = .ok (.ifCond .eq 23, 3) := by decide +kernel
theorem dX11_price_11 : decode cX11_price 11 = .ok (.iload_n 2, 1) := by decide +kernel
theorem dX11_price_12 : decode cX11_price 12 = .ok (.ifCond .lt 19, 3) := by decide +kernel
theorem dX11_price_15 : decode cX11_price 15 = .ok (.iload_n 2, 1) := by decide +kernel
theorem dX11_price_16 : decode cX11_price 16 = .ok (.sipush 9999, 3) := by decide +kernel
theorem dX11_price_19 : decode cX11_price 19 = .ok (.if_icmp .gt 12, 3) := by decide +kernel
theorem dX11_price_22 : decode cX11_price 22 = .ok (.iload_n 3, 1) := by decide +kernel
theorem dX11_price_23 : decode cX11_price 23 = .ok (.ifCond .lt 8, 3) := by decide +kernel
theorem dX11_price_26 : decode cX11_price 26 = .ok (.iload_n 3, 1) := by decide +kernel
theorem dX11_price_27 : decode cX11_price 27 = .ok (.iconst 1, 1) := by decide +kernel
theorem dX11_price_28 : decode cX11_price 28 = .ok (.if_icmp .le 5, 3) := by decide +kernel
theorem dX11_price_31 : decode cX11_price 31 = .ok (.iconst (-1), 1) := by decide +kernel
theorem dX11_price_32 : decode cX11_price 32 = .ok (.ireturn, 1) := by decide +kernel
theorem dX11_price_33 : decode cX11_price 33 = .ok (.aload_n 0, 1) := by decide +kernel
theorem dX11_price_34 : decode cX11_price 34 = .ok (.getfield 63, 3) := by decide +kernel
theorem dX11_price_37 : decode cX11_price 37 = .ok (.aload_n 0, 1) := by decide +kernel
theorem dX11_price_38 : decode cX11_price 38 = .ok (.getfield 39, 3) := by decide +kernel
theorem dX11_price_41 : decode cX11_price 41 = .ok (.iload_n 1, 1) := by decide +kernel
theorem dX11_price_42 : decode cX11_price 42 = .ok (.iload_n 2, 1) := by decide +kernel
theorem dX11_price_43 : decode cX11_price 43 = .ok (.invokevirtual 257, 3) := by decide +kernel
theorem dX11_price_46 : decode cX11_price 46 = .ok (.istore 4, 2) := by decide +kernel
theorem dX11_price_48 : decode cX11_price 48 = .ok (.iload_n 3, 1) := by decide +kernel
theorem dX11_price_49 : decode cX11_price 49 = .ok (.ifCond .eq 9, 3) := by decide +kernel
theorem dX11_price_52 : decode cX11_price 52 = .ok (.iload 4, 2) := by decide +kernel
theorem dX11_price_54 : decode cX11_price 54 = .ok (.iconst (-1), 1) := by decide +kernel
theorem dX11_price_55 : decode cX11_price 55 = .ok (.if_icmp .ne 8, 3) := by decide +kernel
theorem dX11_price_58 : decode cX11_price 58 = .ok (.iload 4, 2) := by decide +kernel
theorem dX11_price_60 : decode cX11_price 60 = .ok (.goto 10, 3) := by decide +kernel
theorem dX11_price_63 : decode cX11_price 63 = .ok (.aload_n 0, 1) := by decide +kernel
theorem dX11_price_64 : decode cX11_price 64 = .ok (.getfield 63, 3) := by decide +kernel
theorem dX11_price_67 : decode cX11_price 67 = .ok (.getfield 261, 3) := by decide +kernel
theorem dX11_price_70 : decode cX11_price 70 = .ok (.ireturn, 1) := by decide +kernel
theorem dX11_moves_0 : decode cX11_moves 0 = .ok (.aload_n 0, 1) := by decide +kernel
theorem dX11_moves_1 : decode cX11_moves 1 = .ok (.invokevirtual 108, 3) := by decide +kernel
theorem dX11_moves_4 : decode cX11_moves 4 = .ok (.istore_n 1, 1) := by decide +kernel
theorem dX11_moves_5 : decode cX11_moves 5 = .ok (.aload_n 0, 1) := by decide +kernel
theorem dX11_moves_6 : decode cX11_moves 6 = .ok (.getfield 70, 3) := by decide +kernel
theorem dX11_moves_9 : decode cX11_moves 9 = .ok (.aload_n 0, 1) := by decide +kernel
theorem dX11_moves_10 : decode cX11_moves 10 = .ok (.getfield 9, 3) := by decide +kernel
theorem dX11_moves_13 : decode cX11_moves 13 = .ok (.iload_n 1, 1) := by decide +kernel
theorem dX11_moves_14 : decode cX11_moves 14 = .ok (.aload_n 0, 1) := by decide +kernel
theorem dX11_moves_15 : decode cX11_moves 15 = .ok (.getfield 39, 3) := by decide +kernel
theorem dX11_moves_18 : decode cX11_moves 18 = .ok (.invokevirtual 264, 3) := by decide +kernel
theorem dX11_moves_21 : decode cX11_moves 21 = .ok (.ifCond .ne 9, 3) := by decide +kernel
theorem dX11_moves_24 : decode cX11_moves 24 = .ok (.aload_n 0, 1) := by decide +kernel
theorem dX11_moves_25 : decode cX11_moves 25 = .ok (.iconst 5, 1) := by decide +kernel
theorem dX11_moves_26 : decode cX11_moves 26 = .ok (.invokevirtual 100, 3) := by decide +kernel
theorem dX11_moves_29 : decode cX11_moves 29 = .ok (.ireturn, 1) := by decide +kernel
theorem dX11_moves_30 : decode cX11_moves 30 = .ok (.aload_n 0, 1) := by decide +kernel
theorem dX11_moves_31 : decode cX11_moves 31 = .ok (.getfield 43, 3) := by decide +kernel
theorem dX11_moves_34 : decode cX11_moves 34 = .ok (.aload_n 0, 1) := by decide +kernel
theorem dX11_moves_35 : decode cX11_moves 35 = .ok (.getfield 39, 3) := by decide +kernel
theorem dX11_moves_38 : decode cX11_moves 38 = .ok (.invokevirtual 247, 3) := by decide +kernel
theorem dX11_moves_41 : decode cX11_moves 41 = .ok (.aload_n 0, 1) := by decide +kernel
theorem dX11_moves_42 : decode cX11_moves 42 = .ok (.getfield 70, 3) := by decide +kernel
theorem dX11_moves_45 : decode cX11_moves 45 = .ok (.aload_n 0, 1) := by decide +kernel
theorem dX11_moves_46 : decode cX11_moves 46 = .ok (.getfield 43, 3) := by decide +kernel
theorem dX11_moves_49 : decode cX11_moves 49 = .ok (.invokevirtual 268, 3) := by decide +kernel
theorem dX11_moves_52 : decode cX11_moves 52 = .ok (.ireturn, 1) := by decide +kernel
theorem dX11_pack_0 : decode cX11_pack 0 = .ok (.aload_n 0, 1) := by decide +kernel
theorem dX11_pack_1 : decode cX11_pack 1 = .ok (.getfield 39, 3) := by decide +kernel
theorem dX11_pack_4 : decode cX11_pack 4 = .ok (.iload_n 1, 1) := by decide +kernel
theorem dX11_pack_5 : decode cX11_pack 5 = .ok (.invokevirtual 183, 3) := by decide +kernel
theorem dX11_pack_8 : decode cX11_pack 8 = .ok (.ifCond .eq 12, 3) := by decide +kernel
theorem dX11_pack_11 : decode cX11_pack 11 = .ok (.iload_n 2, 1) := by decide +kernel
theorem dX11_pack_12 : decode cX11_pack 12 = .ok (.ifCond .lt 8, 3) := by decide +kernel
theorem dX11_pack_15 : decode cX11_pack 15 = .ok (.iload_n 2, 1) := by decide +kernel
theorem dX11_pack_16 : decode cX11_pack 16 = .ok (.iconst 1, 1) := by decide +kernel
theorem dX11_pack_17 : decode cX11_pack 17 = .ok (.if_icmp .le 5, 3) := by decide +kernel
theorem dX11_pack_20 : decode cX11_pack 20 = .ok (.iconst (-1), 1) := by decide +kernel
theorem dX11_pack_21 : decode cX11_pack 21 = .ok (.ireturn, 1) := by decide +kernel
theorem dX11_pack_22 : decode cX11_pack 22 = .ok (.aload_n 0, 1) := by decide +kernel
theorem dX11_pack_23 : decode cX11_pack 23 = .ok (.getfield 63, 3) := by decide +kernel
theorem dX11_pack_26 : decode cX11_pack 26 = .ok (.aload_n 0, 1) := by decide +kernel
theorem dX11_pack_27 : decode cX11_pack 27 = .ok (.getfield 39, 3) := by decide +kernel
theorem dX11_pack_30 : decode cX11_pack 30 = .ok (.iload_n 1, 1) := by decide +kernel
theorem dX11_pack_31 : decode cX11_pack 31 = .ok (.invokevirtual 272, 3) := by decide +kernel
theorem dX11_pack_34 : decode cX11_pack 34 = .ok (.istore_n 3, 1) := by decide +kernel
theorem dX11_pack_35 : decode cX11_pack 35 = .ok (.iload_n 3, 1) := by decide +kernel
theorem dX11_pack_36 : decode cX11_pack 36 = .ok (.iconst (-1), 1) := by decide +kernel
theorem dX11_pack_37 : decode cX11_pack 37 = .ok (.if_icmp .ne 5, 3) := by decide +kernel
theorem dX11_pack_40 : decode cX11_pack 40 = .ok (.iconst (-1), 1) := by decide +kernel
theorem dX11_pack_41 : decode cX11_pack 41 = .ok (.ireturn, 1) := by decide +kernel
theorem dX11_pack_42 : decode cX11_pack 42 = .ok (.iload_n 2, 1) := by decide +kernel
theorem dX11_pack_43 : decode cX11_pack 43 = .ok (.ifCond .ne 11, 3) := by decide +kernel
theorem dX11_pack_46 : decode cX11_pack 46 = .ok (.iload_n 3, 1) := by decide +kernel
theorem dX11_pack_47 : decode cX11_pack 47 = .ok (.sipush 256, 3) := by decide +kernel
theorem dX11_pack_50 : decode cX11_pack 50 = .ok (.irem, 1) := by decide +kernel
theorem dX11_pack_51 : decode cX11_pack 51 = .ok (.goto 8, 3) := by decide +kernel
theorem dX11_pack_54 : decode cX11_pack 54 = .ok (.iload_n 3, 1) := by decide +kernel
theorem dX11_pack_55 : decode cX11_pack 55 = .ok (.sipush 256, 3) := by decide +kernel
theorem dX11_pack_58 : decode cX11_pack 58 = .ok (.idiv, 1) := by decide +kernel
theorem dX11_pack_59 : decode cX11_pack 59 = .ok (.ireturn, 1) := by decide +kernel
theorem dX11_net_0 : decode cX11_net 0 = .ok (.aload_n 0, 1) := by decide +kernel
theorem dX11_net_1 : decode cX11_net 1 = .ok (.getfield 39, 3) := by decide +kernel
theorem dX11_net_4 : decode cX11_net 4 = .ok (.iload_n 1, 1) := by decide +kernel
theorem dX11_net_5 : decode cX11_net 5 = .ok (.invokevirtual 183, 3) := by decide +kernel
theorem dX11_net_8 : decode cX11_net 8 = .ok (.ifCond .eq 14, 3) := by decide +kernel
theorem dX11_net_11 : decode cX11_net 11 = .ok (.aload_n 0, 1) := by decide +kernel
theorem dX11_net_12 : decode cX11_net 12 = .ok (.getfield 39, 3) := by decide +kernel
theorem dX11_net_15 : decode cX11_net 15 = .ok (.iload_n 1, 1) := by decide +kernel
theorem dX11_net_16 : decode cX11_net 16 = .ok (.invokevirtual 276, 3) := by decide +kernel
theorem dX11_net_19 : decode cX11_net 19 = .ok (.goto 6, 3) := by decide +kernel
theorem dX11_net_22 : decode cX11_net 22 = .ok (.ldc_w 279, 3) := by decide +kernel
theorem dX11_net_25 : decode cX11_net 25 = .ok (.ireturn, 1) := by decide +kernel
theorem dX11_settling_0 : decode cX11_settling 0 = .ok (.aload_n 0, 1) := by decide +kernel
theorem dX11_settling_1 : decode cX11_settling 1 = .ok (.getfield 63, 3) := by decide +kernel
theorem dX11_settling_4 : decode cX11_settling 4 = .ok (.aload_n 0, 1) := by decide +kernel
theorem dX11_settling_5 : decode cX11_settling 5 = .ok (.getfield 39, 3) := by decide +kernel
theorem dX11_settling_8 : decode cX11_settling 8 = .ok (.invokevirtual 280, 3) := by decide +kernel
theorem dX11_settling_11 : decode cX11_settling 11 = .ok (.ireturn, 1) := by decide +kernel
theorem dX11_share_0 : decode cX11_share 0 = .ok (.aload_n 0, 1) := by decide +kernel
theorem dX11_share_1 : decode cX11_share 1 = .ok (.getfield 39, 3) := by decide +kernel
theorem dX11_share_4 : decode cX11_share 4 = .ok (.iload_n 1, 1) := by decide +kernel
theorem dX11_share_5 : decode cX11_share 5 = .ok (.invokevirtual 183, 3) := by decide +kernel
theorem dX11_share_8 : decode cX11_share 8 = .ok (.ifCond .eq 13, 3) := by decide +kernel
theorem dX11_share_11 : decode cX11_share 11 = .ok (.iload_n 2, 1) := by decide +kernel
theorem dX11_share_12 : decode cX11_share 12 = .ok (.iconst 2, 1) := by decide +kernel
theorem dX11_share_13 : decode cX11_share 13 = .ok (.if_icmp .lt 8, 3) := by decide +kernel
theorem dX11_share_16 : decode cX11_share 16 = .ok (.iload_n 2, 1) := by decide +kernel
theorem dX11_share_17 : decode cX11_share 17 = .ok (.iconst 3, 1) := by decide +kernel
theorem dX11_share_18 : decode cX11_share 18 = .ok (.if_icmp .le 5, 3) := by decide +kernel
theorem dX11_share_21 : decode cX11_share 21 = .ok (.iconst (-1), 1) := by decide +kernel
theorem dX11_share_22 : decode cX11_share 22 = .ok (.ireturn, 1) := by decide +kernel
theorem dX11_share_23 : decode cX11_share 23 = .ok (.iload_n 3, 1) := by decide +kernel
theorem dX11_share_24 : decode cX11_share 24 = .ok (.iconst (-1), 1) := by decide +kernel
theorem dX11_share_25 : decode cX11_share 25 = .ok (.if_icmp .ne 17, 3) := by decide +kernel
theorem dX11_share_28 : decode cX11_share 28 = .ok (.aload_n 0, 1) := by decide +kernel
theorem dX11_share_29 : decode cX11_share 29 = .ok (.getfield 63, 3) := by decide +kernel
theorem dX11_share_32 : decode cX11_share 32 = .ok (.aload_n 0, 1) := by decide +kernel
theorem dX11_share_33 : decode cX11_share 33 = .ok (.getfield 39, 3) := by decide +kernel
theorem dX11_share_36 : decode cX11_share 36 = .ok (.iload_n 1, 1) := by decide +kernel
theorem dX11_share_37 : decode cX11_share 37 = .ok (.iload_n 2, 1) := by decide +kernel
theorem dX11_share_38 : decode cX11_share 38 = .ok (.invokevirtual 282, 3) := by decide +kernel
theorem dX11_share_41 : decode cX11_share 41 = .ok (.ireturn, 1) := by decide +kernel
theorem dX11_share_42 : decode cX11_share 42 = .ok (.aload_n 0, 1) := by decide +kernel
theorem dX11_share_43 : decode cX11_share 43 = .ok (.getfield 39, 3) := by decide +kernel
theorem dX11_share_46 : decode cX11_share 46 = .ok (.iload_n 3, 1) := by decide +kernel
theorem dX11_share_47 : decode cX11_share 47 = .ok (.invokevirtual 254, 3) := by decide +kernel
theorem dX11_share_50 : decode cX11_share 50 = .ok (.ifCond .eq 16, 3) := by decide +kernel
theorem dX11_share_53 : decode cX11_share 53 = .ok (.aload_n 0, 1) := by decide +kernel
theorem dX11_share_54 : decode cX11_share 54 = .ok (.getfield 39, 3) := by decide +kernel
theorem dX11_share_57 : decode cX11_share 57 = .ok (.getfield 213, 3) := by decide +kernel
theorem dX11_share_60 : decode cX11_share 60 = .ok (.iload_n 3, 1) := by decide +kernel
theorem dX11_share_61 : decode cX11_share 61 = .ok (.iaload, 1) := by decide +kernel
theorem dX11_share_62 : decode cX11_share 62 = .ok (.iload_n 1, 1) := by decide +kernel
theorem dX11_share_63 : decode cX11_share 63 = .ok (.if_icmp .eq 5, 3) := by decide +kernel
theorem dX11_share_66 : decode cX11_share 66 = .ok (.iconst (-1), 1) := by decide +kernel
theorem dX11_share_67 : decode cX11_share 67 = .ok (.ireturn, 1) := by decide +kernel
theorem dX11_share_68 : decode cX11_share 68 = .ok (.aload_n 0, 1) := by decide +kernel
theorem dX11_share_69 : decode cX11_share 69 = .ok (.getfield 63, 3) := by decide +kernel
theorem dX11_share_72 : decode cX11_share 72 = .ok (.aload_n 0, 1) := by decide +kernel
theorem dX11_share_73 : decode cX11_share 73 = .ok (.getfield 39, 3) := by decide +kernel
theorem dX11_share_76 : decode cX11_share 76 = .ok (.iload_n 1, 1) := by decide +kernel
theorem dX11_share_77 : decode cX11_share 77 = .ok (.iload_n 2, 1) := by decide +kernel
theorem dX11_share_78 : decode cX11_share 78 = .ok (.invokevirtual 282, 3) := by decide +kernel
theorem dX11_share_81 : decode cX11_share 81 = .ok (.pop, 1) := by decide +kernel
theorem dX11_share_82 : decode cX11_share 82 = .ok (.aload_n 0, 1) := by decide +kernel
theorem dX11_share_83 : decode cX11_share 83 = .ok (.getfield 63, 3) := by decide +kernel
theorem dX11_share_86 : decode cX11_share 86 = .ok (.iload_n 3, 1) := by decide +kernel
theorem dX11_share_87 : decode cX11_share 87 = .ok (.invokevirtual 285, 3) := by decide +kernel
theorem dX11_share_90 : decode cX11_share 90 = .ok (.ireturn, 1) := by decide +kernel
theorem dX11_stood_0 : decode cX11_stood 0 = .ok (.aload_n 0, 1) := by decide +kernel
theorem dX11_stood_1 : decode cX11_stood 1 = .ok (.invokevirtual 108, 3) := by decide +kernel
theorem dX11_stood_4 : decode cX11_stood 4 = .ok (.istore_n 1, 1) := by decide +kernel
theorem dX11_stood_5 : decode cX11_stood 5 = .ok (.aload_n 0, 1) := by decide +kernel
theorem dX11_stood_6 : decode cX11_stood 6 = .ok (.iload_n 1, 1) := by decide +kernel
theorem dX11_stood_7 : decode cX11_stood 7 = .ok (.invokevirtual 288, 3) := by decide +kernel
theorem dX11_stood_10 : decode cX11_stood 10 = .ok (.ifCond .ne 9, 3) := by decide +kernel
theorem dX11_stood_13 : decode cX11_stood 13 = .ok (.aload_n 0, 1) := by decide +kernel
theorem dX11_stood_14 : decode cX11_stood 14 = .ok (.iconst 5, 1) := by decide +kernel
theorem dX11_stood_15 : decode cX11_stood 15 = .ok (.invokevirtual 100, 3) := by decide +kernel
theorem dX11_stood_18 : decode cX11_stood 18 = .ok (.ireturn, 1) := by decide +kernel
theorem dX11_stood_19 : decode cX11_stood 19 = .ok (.aload_n 0, 1) := by decide +kernel
theorem dX11_stood_20 : decode cX11_stood 20 = .ok (.iload_n 1, 1) := by decide +kernel
theorem dX11_stood_21 : decode cX11_stood 21 = .ok (.iconst 3, 1) := by decide +kernel
theorem dX11_stood_22 : decode cX11_stood 22 = .ok (.idiv, 1) := by decide +kernel
theorem dX11_stood_23 : decode cX11_stood 23 = .ok (.putfield 130, 3) := by decide +kernel
theorem dX11_stood_26 : decode cX11_stood 26 = .ok (.iconst 0, 1) := by decide +kernel
theorem dX11_stood_27 : decode cX11_stood 27 = .ok (.istore_n 2, 1) := by decide +kernel
theorem dX11_stood_28 : decode cX11_stood 28 = .ok (.iload_n 2, 1) := by decide +kernel
theorem dX11_stood_29 : decode cX11_stood 29 = .ok (.aload_n 0, 1) := by decide +kernel
theorem dX11_stood_30 : decode cX11_stood 30 = .ok (.getfield 130, 3) := by decide +kernel
theorem dX11_stood_33 : decode cX11_stood 33 = .ok (.if_icmp .ge 54, 3) := by decide +kernel
theorem dX11_stood_36 : decode cX11_stood 36 = .ok (.aload_n 0, 1) := by decide +kernel
theorem dX11_stood_37 : decode cX11_stood 37 = .ok (.getfield 81, 3) := by decide +kernel
theorem dX11_stood_40 : decode cX11_stood 40 = .ok (.iload_n 2, 1) := by decide +kernel
theorem dX11_stood_41 : decode cX11_stood 41 = .ok (.aload_n 0, 1) := by decide +kernel
theorem dX11_stood_42 : decode cX11_stood 42 = .ok (.getfield 9, 3) := by decide +kernel
theorem dX11_stood_45 : decode cX11_stood 45 = .ok (.iload_n 2, 1) := by decide +kernel
theorem dX11_stood_46 : decode cX11_stood 46 = .ok (.iconst 3, 1) := by decide +kernel
theorem dX11_stood_47 : decode cX11_stood 47 = .ok (.imul, 1) := by decide +kernel
theorem dX11_stood_48 : decode cX11_stood 48 = .ok (.iaload, 1) := by decide +kernel
theorem dX11_stood_49 : decode cX11_stood 49 = .ok (.iastore, 1) := by decide +kernel
theorem dX11_stood_50 : decode cX11_stood 50 = .ok (.aload_n 0, 1) := by decide +kernel
theorem dX11_stood_51 : decode cX11_stood 51 = .ok (.getfield 84, 3) := by decide +kernel
theorem dX11_stood_54 : decode cX11_stood 54 = .ok (.iload_n 2, 1) := by decide +kernel
theorem dX11_stood_55 : decode cX11_stood 55 = .ok (.aload_n 0, 1) := by decide +kernel
theorem dX11_stood_56 : decode cX11_stood 56 = .ok (.getfield 9, 3) := by decide +kernel
theorem dX11_stood_59 : decode cX11_stood 59 = .ok (.iload_n 2, 1) := by decide +kernel
theorem dX11_stood_60 : decode cX11_stood 60 = .ok (.iconst 3, 1) := by decide +kernel
theorem dX11_stood_61 : decode cX11_stood 61 = .ok (.imul, 1) := by decide +kernel
theorem dX11_stood_62 : decode cX11_stood 62 = .ok (.iconst 1, 1) := by decide +kernel
theorem dX11_stood_63 : decode cX11_stood 63 = .ok (.iadd, 1) := by decide +kernel
theorem dX11_stood_64 : decode cX11_stood 64 = .ok (.iaload, 1) := by decide +kernel
theorem dX11_stood_65 : decode cX11_stood 65 = .ok (.sipush 256, 3) := by decide +kernel
theorem dX11_stood_68 : decode cX11_stood 68 = .ok (.imul, 1) := by decide +kernel
theorem dX11_stood_69 : decode cX11_stood 69 = .ok (.aload_n 0, 1) := by decide +kernel
theorem dX11_stood_70 : decode cX11_stood 70 = .ok (.getfield 9, 3) := by decide +kernel
theorem dX11_stood_73 : decode cX11_stood 73 = .ok (.iload_n 2, 1) := by decide +kernel
theorem dX11_stood_74 : decode cX11_stood 74 = .ok (.iconst 3, 1) := by decide +kernel
theorem dX11_stood_75 : decode cX11_stood 75 = .ok (.imul, 1) := by decide +kernel
theorem dX11_stood_76 : decode cX11_stood 76 = .ok (.iconst 2, 1) := by decide +kernel
theorem dX11_stood_77 : decode cX11_stood 77 = .ok (.iadd, 1) := by decide +kernel
theorem dX11_stood_78 : decode cX11_stood 78 = .ok (.iaload, 1) := by decide +kernel
theorem dX11_stood_79 : decode cX11_stood 79 = .ok (.iadd, 1) := by decide +kernel
theorem dX11_stood_80 : decode cX11_stood 80 = .ok (.iastore, 1) := by decide +kernel
theorem dX11_stood_81 : decode cX11_stood 81 = .ok (.iinc 2 1, 3) := by decide +kernel
theorem dX11_stood_84 : decode cX11_stood 84 = .ok (.goto (-56), 3) := by decide +kernel
theorem dX11_stood_87 : decode cX11_stood 87 = .ok (.aload_n 0, 1) := by decide +kernel
theorem dX11_stood_88 : decode cX11_stood 88 = .ok (.getfield 130, 3) := by decide +kernel
theorem dX11_stood_91 : decode cX11_stood 91 = .ok (.ireturn, 1) := by decide +kernel
theorem dX11_tellsStood_0 : decode cX11_tellsStood 0 = .ok (.iload_n 1, 1) := by decide +kernel
theorem dX11_tellsStood_1 : decode cX11_tellsStood 1 = .ok (.iconst 3, 1) := by decide +kernel
theorem dX11_tellsStood_2 : decode cX11_tellsStood 2 = .ok (.if_icmp .lt 15, 3) := by decide +kernel
theorem dX11_tellsStood_5 : decode cX11_tellsStood 5 = .ok (.iload_n 1, 1) := by decide +kernel
theorem dX11_tellsStood_6 : decode cX11_tellsStood 6 = .ok (.bipush 24, 2) := by decide +kernel
theorem dX11_tellsStood_8 : decode cX11_tellsStood 8 = .ok (.if_icmp .gt 9, 3) := by decide +kernel
theorem dX11_tellsStood_11 : decode cX11_tellsStood 11 = .ok (.iload_n 1, 1) := by decide +kernel
theorem dX11_tellsStood_12 : decode cX11_tellsStood 12 = .ok (.iconst 3, 1) := by decide +kernel
theorem dX11_tellsStood_13 : decode cX11_tellsStood 13 = .ok (.irem, 1) := by decide +kernel
theorem dX11_tellsStood_14 : decode cX11_tellsStood 14 = .ok (.ifCond .eq 5, 3) := by decide +kernel
theorem dX11_tellsStood_17 : decode cX11_tellsStood 17 = .ok (.iconst 0, 1) := by decide +kernel
theorem dX11_tellsStood_18 : decode cX11_tellsStood 18 = .ok (.ireturn, 1) := by decide +kernel
theorem dX11_tellsStood_19 : decode cX11_tellsStood 19 = .ok (.iconst 0, 1) := by decide +kernel
theorem dX11_tellsStood_20 : decode cX11_tellsStood 20 = .ok (.istore_n 2, 1) := by decide +kernel
theorem dX11_tellsStood_21 : decode cX11_tellsStood 21 = .ok (.iload_n 2, 1) := by decide +kernel
theorem dX11_tellsStood_22 : decode cX11_tellsStood 22 = .ok (.iload_n 1, 1) := by decide +kernel
theorem dX11_tellsStood_23 : decode cX11_tellsStood 23 = .ok (.if_icmp .ge 54, 3) := by decide +kernel
theorem dX11_tellsStood_26 : decode cX11_tellsStood 26 = .ok (.aload_n 0, 1) := by decide +kernel
theorem dX11_tellsStood_27 : decode cX11_tellsStood 27 = .ok (.getfield 39, 3) := by decide +kernel
theorem dX11_tellsStood_30 : decode cX11_tellsStood 30 = .ok (.aload_n 0, 1) := by decide +kernel
theorem dX11_tellsStood_31 : decode cX11_tellsStood 31 = .ok (.getfield 9, 3) := by decide +kernel
theorem dX11_tellsStood_34 : decode cX11_tellsStood 34 = .ok (.iload_n 2, 1) := by decide +kernel
theorem dX11_tellsStood_35 : decode cX11_tellsStood 35 = .ok (.iaload, 1) := by decide +kernel
theorem dX11_tellsStood_36 : decode cX11_tellsStood 36 = .ok (.invokevirtual 189, 3) := by decide +kernel
theorem dX11_tellsStood_39 : decode cX11_tellsStood 39 = .ok (.ifCond .eq 30, 3) := by decide +kernel
theorem dX11_tellsStood_42 : decode cX11_tellsStood 42 = .ok (.aload_n 0, 1) := by decide +kernel
theorem dX11_tellsStood_43 : decode cX11_tellsStood 43 = .ok (.getfield 9, 3) := by decide +kernel
theorem dX11_tellsStood_46 : decode cX11_tellsStood 46 = .ok (.iload_n 2, 1) := by decide +kernel
theorem dX11_tellsStood_47 : decode cX11_tellsStood 47 = .ok (.iconst 1, 1) := by decide +kernel
theorem dX11_tellsStood_48 : decode cX11_tellsStood 48 = .ok (.iadd, 1) := by decide +kernel
theorem dX11_tellsStood_49 : decode cX11_tellsStood 49 = .ok (.iaload, 1) := by decide +kernel
theorem dX11_tellsStood_50 : decode cX11_tellsStood 50 = .ok (.sipush 256, 3) := by decide +kernel
theorem dX11_tellsStood_53 : decode cX11_tellsStood 53 = .ok (.imul, 1) := by decide +kernel
theorem dX11_tellsStood_54 : decode cX11_tellsStood 54 = .ok (.aload_n 0, 1) := by decide +kernel
theorem dX11_tellsStood_55 : decode cX11_tellsStood 55 = .ok (.getfield 9, 3) := by decide +kernel
theorem dX11_tellsStood_58 : decode cX11_tellsStood 58 = .ok (.iload_n 2, 1) := by decide +kernel
theorem dX11_tellsStood_59 : decode cX11_tellsStood 59 = .ok (.iconst 2, 1) := by decide +kernel
theorem dX11_tellsStood_60 : decode cX11_tellsStood 60 = .ok (.iadd, 1) := by decide +kernel
theorem dX11_tellsStood_61 : decode cX11_tellsStood 61 = .ok (.iaload, 1) := by decide +kernel
theorem dX11_tellsStood_62 : decode cX11_tellsStood 62 = .ok (.iadd, 1) := by decide +kernel
theorem dX11_tellsStood_63 : decode cX11_tellsStood 63 = .ok (.sipush 999, 3) := by decide +kernel
theorem dX11_tellsStood_66 : decode cX11_tellsStood 66 = .ok (.if_icmp .le 5, 3) := by decide +kernel
theorem dX11_tellsStood_69 : decode cX11_tellsStood 69 = .ok (.iconst 0, 1) := by decide +kernel
theorem dX11_tellsStood_70 : decode cX11_tellsStood 70 = .ok (.ireturn, 1) := by decide +kernel
theorem dX11_tellsStood_71 : decode cX11_tellsStood 71 = .ok (.iinc 2 3, 3) := by decide +kernel
theorem dX11_tellsStood_74 : decode cX11_tellsStood 74 = .ok (.goto (-53), 3) := by decide +kernel
theorem dX11_tellsStood_77 : decode cX11_tellsStood 77 = .ok (.iconst 1, 1) := by decide +kernel
theorem dX11_tellsStood_78 : decode cX11_tellsStood 78 = .ok (.ireturn, 1) := by decide +kernel
theorem dX11_robbed_0 : decode cX11_robbed 0 = .ok (.aload_n 0, 1) := by decide +kernel
theorem dX11_robbed_1 : decode cX11_robbed 1 = .ok (.getfield 130, 3) := by decide +kernel
theorem dX11_robbed_4 : decode cX11_robbed 4 = .ok (.ifCond .eq 15, 3) := by decide +kernel
theorem dX11_robbed_7 : decode cX11_robbed 7 = .ok (.iload_n 1, 1) := by decide +kernel
theorem dX11_robbed_8 : decode cX11_robbed 8 = .ok (.iconst 1, 1) := by decide +kernel
theorem dX11_robbed_9 : decode cX11_robbed 9 = .ok (.if_icmp .lt 10, 3) := by decide +kernel
theorem dX11_robbed_12 : decode cX11_robbed 12 = .ok (.iload_n 1, 1) := by decide +kernel
theorem dX11_robbed_13 : decode cX11_robbed 13 = .ok (.sipush 999, 3) := by decide +kernel
theorem dX11_robbed_16 : decode cX11_robbed 16 = .ok (.if_icmp .le 5, 3) := by decide +kernel
theorem dX11_robbed_19 : decode cX11_robbed 19 = .ok (.iconst (-1), 1) := by decide +kernel
theorem dX11_robbed_20 : decode cX11_robbed 20 = .ok (.ireturn, 1) := by decide +kernel
theorem dX11_robbed_21 : decode cX11_robbed 21 = .ok (.aload_n 0, 1) := by decide +kernel
theorem dX11_robbed_22 : decode cX11_robbed 22 = .ok (.getfield 43, 3) := by decide +kernel
theorem dX11_robbed_25 : decode cX11_robbed 25 = .ok (.aload_n 0, 1) := by decide +kernel
theorem dX11_robbed_26 : decode cX11_robbed 26 = .ok (.getfield 39, 3) := by decide +kernel
theorem dX11_robbed_29 : decode cX11_robbed 29 = .ok (.invokevirtual 247, 3) := by decide +kernel
theorem dX11_robbed_32 : decode cX11_robbed 32 = .ok (.aload_n 0, 1) := by decide +kernel
theorem dX11_robbed_33 : decode cX11_robbed 33 = .ok (.getfield 43, 3) := by decide +kernel
theorem dX11_robbed_36 : decode cX11_robbed 36 = .ok (.iconst 0, 1) := by decide +kernel
theorem dX11_robbed_37 : decode cX11_robbed 37 = .ok (.invokevirtual 251, 3) := by decide +kernel
theorem dX11_robbed_40 : decode cX11_robbed 40 = .ok (.pop, 1) := by decide +kernel
theorem dX11_robbed_41 : decode cX11_robbed 41 = .ok (.aload_n 0, 1) := by decide +kernel
theorem dX11_robbed_42 : decode cX11_robbed 42 = .ok (.iconst (-1), 1) := by decide +kernel
theorem dX11_robbed_43 : decode cX11_robbed 43 = .ok (.iconst 0, 1) := by decide +kernel
theorem dX11_robbed_44 : decode cX11_robbed 44 = .ok (.invokevirtual 291, 3) := by decide +kernel
theorem dX11_robbed_47 : decode cX11_robbed 47 = .ok (.ifCond .eq 9, 3) := by decide +kernel
theorem dX11_robbed_50 : decode cX11_robbed 50 = .ok (.sipush 256, 3) := by decide +kernel
theorem dX11_robbed_53 : decode cX11_robbed 53 = .ok (.goto 4, 3) := by decide +kernel
theorem dX11_robbed_56 : decode cX11_robbed 56 = .ok (.iconst 0, 1) := by decide +kernel
theorem dX11_robbed_57 : decode cX11_robbed 57 = .ok (.istore_n 2, 1) := by decide +kernel
theorem dX11_robbed_58 : decode cX11_robbed 58 = .ok (.iconst 0, 1) := by decide +kernel
theorem dX11_robbed_59 : decode cX11_robbed 59 = .ok (.istore_n 3, 1) := by decide +kernel
theorem dX11_robbed_60 : decode cX11_robbed 60 = .ok (.iload_n 3, 1) := by decide +kernel
theorem dX11_robbed_61 : decode cX11_robbed 61 = .ok (.aload_n 0, 1) := by decide +kernel
theorem dX11_robbed_62 : decode cX11_robbed 62 = .ok (.getfield 16, 3) := by decide +kernel
theorem dX11_robbed_65 : decode cX11_robbed 65 = .ok (.getfield 148, 3) := by decide +kernel
theorem dX11_robbed_68 : decode cX11_robbed 68 = .ok (.if_icmp .ge 35, 3) := by decide +kernel
theorem dX11_robbed_71 : decode cX11_robbed 71 = .ok (.aload_n 0, 1) := by decide +kernel
theorem dX11_robbed_72 : decode cX11_robbed 72 = .ok (.getfield 43, 3) := by decide +kernel
theorem dX11_robbed_75 : decode cX11_robbed 75 = .ok (.iload_n 3, 1) := by decide +kernel
theorem dX11_robbed_76 : decode cX11_robbed 76 = .ok (.invokevirtual 254, 3) := by decide +kernel
theorem dX11_robbed_79 : decode cX11_robbed 79 = .ok (.ifCond .eq 18, 3) := by decide +kernel
theorem dX11_robbed_82 : decode cX11_robbed 82 = .ok (.aload_n 0, 1) := by decide +kernel
theorem dX11_robbed_83 : decode cX11_robbed 83 = .ok (.iload_n 3, 1) := by decide +kernel
theorem dX11_robbed_84 : decode cX11_robbed 84 = .ok (.iload_n 1, 1) := by decide +kernel
theorem dX11_robbed_85 : decode cX11_robbed 85 = .ok (.invokevirtual 291, 3) := by decide +kernel
theorem dX11_robbed_88 : decode cX11_robbed 88 = .ok (.ifCond .eq 9, 3) := by decide +kernel
theorem dX11_robbed_91 : decode cX11_robbed 91 = .ok (.iload_n 2, 1) := by decide +kernel
theorem dX11_robbed_92 : decode cX11_robbed 92 = .ok (.iconst 1, 1) := by decide +kernel
theorem dX11_robbed_93 : decode cX11_robbed 93 = .ok (.iload_n 3, 1) := by decide +kernel
theorem dX11_robbed_94 : decode cX11_robbed 94 = .ok (.ishl, 1) := by decide +kernel
theorem dX11_robbed_95 : decode cX11_robbed 95 = .ok (.ior, 1) := by decide +kernel
theorem dX11_robbed_96 : decode cX11_robbed 96 = .ok (.istore_n 2, 1) := by decide +kernel
theorem dX11_robbed_97 : decode cX11_robbed 97 = .ok (.iinc 3 1, 3) := by decide +kernel
theorem dX11_robbed_100 : decode cX11_robbed 100 = .ok (.goto (-40), 3) := by decide +kernel
theorem dX11_robbed_103 : decode cX11_robbed 103 = .ok (.iload_n 2, 1) := by decide +kernel
theorem dX11_robbed_104 : decode cX11_robbed 104 = .ok (.ireturn, 1) := by decide +kernel
theorem dX11_stoodIfTaken_0 : decode cX11_stoodIfTaken 0 = .ok (.iconst 0, 1) := by decide +kernel
theorem dX11_stoodIfTaken_1 : decode cX11_stoodIfTaken 1 = .ok (.istore_n 3, 1) := by decide +kernel
theorem dX11_stoodIfTaken_2 : decode cX11_stoodIfTaken 2 = .ok (.iload_n 3, 1) := by decide +kernel
theorem dX11_stoodIfTaken_3 : decode cX11_stoodIfTaken 3 = .ok (.aload_n 0, 1) := by decide +kernel
theorem dX11_stoodIfTaken_4 : decode cX11_stoodIfTaken 4 = .ok (.getfield 130, 3) := by decide +kernel
theorem dX11_stoodIfTaken_7 : decode cX11_stoodIfTaken 7 = .ok (.if_icmp .ge 58, 3) := by decide +kernel
theorem dX11_stoodIfTaken_10 : decode cX11_stoodIfTaken 10 = .ok (.aload_n 0, 1) := by decide +kernel
theorem dX11_stoodIfTaken_11 : decode cX11_stoodIfTaken 11 = .ok (.getfield 43, 3) := by decide +kernel
theorem dX11_stoodIfTaken_14 : decode cX11_stoodIfTaken 14 = .ok (.getfield 207, 3) := by decide +kernel
theorem dX11_stoodIfTaken_17 : decode cX11_stoodIfTaken 17 = .ok (.aload_n 0, 1) := by decide +kernel
theorem dX11_stoodIfTaken_18 : decode cX11_stoodIfTaken 18 = .ok (.getfield 81, 3) := by decide +kernel
theorem dX11_stoodIfTaken_21 : decode cX11_stoodIfTaken 21 = .ok (.iload_n 3, 1) := by decide +kernel
theorem dX11_stoodIfTaken_22 : decode cX11_stoodIfTaken 22 = .ok (.iaload, 1) := by decide +kernel
theorem dX11_stoodIfTaken_23 : decode cX11_stoodIfTaken 23 = .ok (.iaload, 1) := by decide +kernel
theorem dX11_stoodIfTaken_24 : decode cX11_stoodIfTaken 24 = .ok (.istore 4, 2) := by decide +kernel
theorem dX11_stoodIfTaken_26 : decode cX11_stoodIfTaken 26 = .ok (.aload_n 0, 1) := by decide +kernel
theorem dX11_stoodIfTaken_27 : decode cX11_stoodIfTaken 27 = .ok (.getfield 81, 3) := by decide +kernel
theorem dX11_stoodIfTaken_30 : decode cX11_stoodIfTaken 30 = .ok (.iload_n 3, 1) := by decide +kernel
theorem dX11_stoodIfTaken_31 : decode cX11_stoodIfTaken 31 = .ok (.iaload, 1) := by decide +kernel
theorem dX11_stoodIfTaken_32 : decode cX11_stoodIfTaken 32 = .ok (.iload_n 1, 1) := by decide +kernel
theorem dX11_stoodIfTaken_33 : decode cX11_stoodIfTaken 33 = .ok (.if_icmp .ne 13, 3) := by decide +kernel
theorem dX11_stoodIfTaken_36 : decode cX11_stoodIfTaken 36 = .ok (.iconst 0, 1) := by decide +kernel
theorem dX11_stoodIfTaken_37 : decode cX11_stoodIfTaken 37 = .ok (.iload 4, 2) := by decide +kernel
theorem dX11_stoodIfTaken_39 : decode cX11_stoodIfTaken 39 = .ok (.iload_n 2, 1) := by decide +kernel
theorem dX11_stoodIfTaken_40 : decode cX11_stoodIfTaken 40 = .ok (.isub, 1) := by decide +kernel
theorem dX11_stoodIfTaken_41 : decode cX11_stoodIfTaken 41 = .ok (.invokestatic 294, 3) := by decide +kernel
theorem dX11_stoodIfTaken_44 : decode cX11_stoodIfTaken 44 = .ok (.istore 4, 2) := by decide +kernel
theorem dX11_stoodIfTaken_46 : decode cX11_stoodIfTaken 46 = .ok (.iload 4, 2) := by decide +kernel
theorem dX11_stoodIfTaken_48 : decode cX11_stoodIfTaken 48 = .ok (.aload_n 0, 1) := by decide +kernel
theorem dX11_stoodIfTaken_49 : decode cX11_stoodIfTaken 49 = .ok (.getfield 84, 3) := by decide +kernel
theorem dX11_stoodIfTaken_52 : decode cX11_stoodIfTaken 52 = .ok (.iload_n 3, 1) := by decide +kernel
theorem dX11_stoodIfTaken_53 : decode cX11_stoodIfTaken 53 = .ok (.iaload, 1) := by decide +kernel
theorem dX11_stoodIfTaken_54 : decode cX11_stoodIfTaken 54 = .ok (.if_icmp .eq 5, 3) := by decide +kernel
theorem dX11_stoodIfTaken_57 : decode cX11_stoodIfTaken 57 = .ok (.iconst 0, 1) := by decide +kernel
theorem dX11_stoodIfTaken_58 : decode cX11_stoodIfTaken 58 = .ok (.ireturn, 1) := by decide +kernel
theorem dX11_stoodIfTaken_59 : decode cX11_stoodIfTaken 59 = .ok (.iinc 3 1, 3) := by decide +kernel
theorem dX11_stoodIfTaken_62 : decode cX11_stoodIfTaken 62 = .ok (.goto (-60), 3) := by decide +kernel
theorem dX11_stoodIfTaken_65 : decode cX11_stoodIfTaken 65 = .ok (.iconst 1, 1) := by decide +kernel
theorem dX11_stoodIfTaken_66 : decode cX11_stoodIfTaken 66 = .ok (.ireturn, 1) := by decide +kernel
theorem dX11_remember_0 : decode cX11_remember 0 = .ok (.aload_n 0, 1) := by decide +kernel
theorem dX11_remember_1 : decode cX11_remember 1 = .ok (.getfield 49, 3) := by decide +kernel
theorem dX11_remember_4 : decode cX11_remember 4 = .ok (.aload_n 0, 1) := by decide +kernel
theorem dX11_remember_5 : decode cX11_remember 5 = .ok (.getfield 39, 3) := by decide +kernel
theorem dX11_remember_8 : decode cX11_remember 8 = .ok (.aload_n 0, 1) := by decide +kernel
theorem dX11_remember_9 : decode cX11_remember 9 = .ok (.getfield 56, 3) := by decide +kernel
theorem dX11_remember_12 : decode cX11_remember 12 = .ok (.getfield 139, 3) := by decide +kernel
theorem dX11_remember_15 : decode cX11_remember 15 = .ok (.invokevirtual 299, 3) := by decide +kernel
theorem dX11_remember_18 : decode cX11_remember 18 = .ok (.return_, 1) := by decide +kernel
theorem dX11_nights_0 : decode cX11_nights 0 = .ok (.iload_n 1, 1) := by decide +kernel
theorem dX11_nights_1 : decode cX11_nights 1 = .ok (.iconst 1, 1) := by decide +kernel
theorem dX11_nights_2 : decode cX11_nights 2 = .ok (.if_icmp .lt 11, 3) := by decide +kernel
theorem dX11_nights_5 : decode cX11_nights 5 = .ok (.aload_n 0, 1) := by decide +kernel
theorem dX11_nights_6 : decode cX11_nights 6 = .ok (.iload_n 1, 1) := by decide +kernel
theorem dX11_nights_7 : decode cX11_nights 7 = .ok (.invokevirtual 244, 3) := by decide +kernel
theorem dX11_nights_10 : decode cX11_nights 10 = .ok (.ifCond .ne 9, 3) := by decide +kernel
theorem dX11_nights_13 : decode cX11_nights 13 = .ok (.aload_n 0, 1) := by decide +kernel
theorem dX11_nights_14 : decode cX11_nights 14 = .ok (.iconst 2, 1) := by decide +kernel
theorem dX11_nights_15 : decode cX11_nights 15 = .ok (.invokevirtual 100, 3) := by decide +kernel
theorem dX11_nights_18 : decode cX11_nights 18 = .ok (.ireturn, 1) := by decide +kernel
theorem dX11_nights_19 : decode cX11_nights 19 = .ok (.aload_n 0, 1) := by decide +kernel
theorem dX11_nights_20 : decode cX11_nights 20 = .ok (.invokevirtual 303, 3) := by decide +kernel
theorem dX11_nights_23 : decode cX11_nights 23 = .ok (.iconst 0, 1) := by decide +kernel
theorem dX11_nights_24 : decode cX11_nights 24 = .ok (.istore_n 2, 1) := by decide +kernel
theorem dX11_nights_25 : decode cX11_nights 25 = .ok (.iconst 0, 1) := by decide +kernel
theorem dX11_nights_26 : decode cX11_nights 26 = .ok (.istore_n 3, 1) := by decide +kernel
theorem dX11_nights_27 : decode cX11_nights 27 = .ok (.iload_n 3, 1) := by decide +kernel
theorem dX11_nights_28 : decode cX11_nights 28 = .ok (.iload_n 1, 1) := by decide +kernel
theorem dX11_nights_29 : decode cX11_nights 29 = .ok (.if_icmp .ge 20, 3) := by decide +kernel
theorem dX11_nights_32 : decode cX11_nights 32 = .ok (.iload_n 2, 1) := by decide +kernel
theorem dX11_nights_33 : decode cX11_nights 33 = .ok (.aload_n 0, 1) := by decide +kernel
theorem dX11_nights_34 : decode cX11_nights 34 = .ok (.getfield 39, 3) := by decide +kernel
theorem dX11_nights_37 : decode cX11_nights 37 = .ok (.iconst 0, 1) := by decide +kernel
theorem dX11_nights_38 : decode cX11_nights 38 = .ok (.invokevirtual 251, 3) := by decide +kernel
theorem dX11_nights_41 : decode cX11_nights 41 = .ok (.iadd, 1) := by decide +kernel
theorem dX11_nights_42 : decode cX11_nights 42 = .ok (.istore_n 2, 1) := by decide +kernel
theorem dX11_nights_43 : decode cX11_nights 43 = .ok (.iinc 3 1, 3) := by decide +kernel
theorem dX11_nights_46 : decode cX11_nights 46 = .ok (.goto (-19), 3) := by decide +kernel
theorem dX11_nights_49 : decode cX11_nights 49 = .ok (.iload_n 2, 1) := by decide +kernel
theorem dX11_nights_50 : decode cX11_nights 50 = .ok (.ireturn, 1) := by decide +kernel
theorem dX11_chance_0 : decode cX11_chance 0 = .ok (.iload_n 1, 1) := by decide +kernel
theorem dX11_chance_1 : decode cX11_chance 1 = .ok (.iconst 1, 1) := by decide +kernel
theorem dX11_chance_2 : decode cX11_chance 2 = .ok (.if_icmp .lt 11, 3) := by decide +kernel
theorem dX11_chance_5 : decode cX11_chance 5 = .ok (.aload_n 0, 1) := by decide +kernel
theorem dX11_chance_6 : decode cX11_chance 6 = .ok (.iload_n 1, 1) := by decide +kernel
theorem dX11_chance_7 : decode cX11_chance 7 = .ok (.invokevirtual 244, 3) := by decide +kernel
theorem dX11_chance_10 : decode cX11_chance 10 = .ok (.ifCond .ne 9, 3) := by decide +kernel
theorem dX11_chance_13 : decode cX11_chance 13 = .ok (.aload_n 0, 1) := by decide +kernel
theorem dX11_chance_14 : decode cX11_chance 14 = .ok (.iconst 2, 1) := by decide +kernel
theorem dX11_chance_15 : decode cX11_chance 15 = .ok (.invokevirtual 100, 3) := by decide +kernel
theorem dX11_chance_18 : decode cX11_chance 18 = .ok (.ireturn, 1) := by decide +kernel
theorem dX11_chance_19 : decode cX11_chance 19 = .ok (.aload_n 0, 1) := by decide +kernel
theorem dX11_chance_20 : decode cX11_chance 20 = .ok (.invokevirtual 303, 3) := by decide +kernel
theorem dX11_chance_23 : decode cX11_chance 23 = .ok (.iconst 0, 1) := by decide +kernel
theorem dX11_chance_24 : decode cX11_chance 24 = .ok (.istore_n 2, 1) := by decide +kernel
theorem dX11_chance_25 : decode cX11_chance 25 = .ok (.iconst 0, 1) := by decide +kernel
theorem dX11_chance_26 : decode cX11_chance 26 = .ok (.istore_n 3, 1) := by decide +kernel
theorem dX11_chance_27 : decode cX11_chance 27 = .ok (.iload_n 3, 1) := by decide +kernel
theorem dX11_chance_28 : decode cX11_chance 28 = .ok (.iload_n 1, 1) := by decide +kernel
theorem dX11_chance_29 : decode cX11_chance 29 = .ok (.if_icmp .ge 47, 3) := by decide +kernel
theorem dX11_chance_32 : decode cX11_chance 32 = .ok (.aload_n 0, 1) := by decide +kernel
theorem dX11_chance_33 : decode cX11_chance 33 = .ok (.bipush 100, 2) := by decide +kernel
theorem dX11_chance_35 : decode cX11_chance 35 = .ok (.invokevirtual 306, 3) := by decide +kernel
theorem dX11_chance_38 : decode cX11_chance 38 = .ok (.aload_n 0, 1) := by decide +kernel
theorem dX11_chance_39 : decode cX11_chance 39 = .ok (.getfield 16, 3) := by decide +kernel
theorem dX11_chance_42 : decode cX11_chance 42 = .ok (.getfield 309, 3) := by decide +kernel
theorem dX11_chance_45 : decode cX11_chance 45 = .ok (.if_icmp .ge 7, 3) := by decide +kernel
theorem dX11_chance_48 : decode cX11_chance 48 = .ok (.iconst 1, 1) := by decide +kernel
theorem dX11_chance_49 : decode cX11_chance 49 = .ok (.goto 4, 3) := by decide +kernel
theorem dX11_chance_52 : decode cX11_chance 52 = .ok (.iconst 0, 1) := by decide +kernel
theorem dX11_chance_53 : decode cX11_chance 53 = .ok (.istore 4, 2) := by decide +kernel
theorem dX11_chance_55 : decode cX11_chance 55 = .ok (.iload_n 2, 1) := by decide +kernel
theorem dX11_chance_56 : decode cX11_chance 56 = .ok (.iload 4, 2) := by decide +kernel
theorem dX11_chance_58 : decode cX11_chance 58 = .ok (.iadd, 1) := by decide +kernel
theorem dX11_chance_59 : decode cX11_chance 59 = .ok (.istore_n 2, 1) := by decide +kernel
theorem dX11_chance_60 : decode cX11_chance 60 = .ok (.aload_n 0, 1) := by decide +kernel
theorem dX11_chance_61 : decode cX11_chance 61 = .ok (.getfield 39, 3) := by decide +kernel
theorem dX11_chance_64 : decode cX11_chance 64 = .ok (.iload 4, 2) := by decide +kernel
theorem dX11_chance_66 : decode cX11_chance 66 = .ok (.invokevirtual 251, 3) := by decide +kernel
theorem dX11_chance_69 : decode cX11_chance 69 = .ok (.pop, 1) := by decide +kernel
theorem dX11_chance_70 : decode cX11_chance 70 = .ok (.iinc 3 1, 3) := by decide +kernel
theorem dX11_chance_73 : decode cX11_chance 73 = .ok (.goto (-46), 3) := by decide +kernel
theorem dX11_chance_76 : decode cX11_chance 76 = .ok (.iload_n 2, 1) := by decide +kernel
theorem dX11_chance_77 : decode cX11_chance 77 = .ok (.ireturn, 1) := by decide +kernel
theorem dX11_draw_0 : decode cX11_draw 0 = .ok (.aload_n 0, 1) := by decide +kernel
theorem dX11_draw_1 : decode cX11_draw 1 = .ok (.ldc_w 312, 3) := by decide +kernel
theorem dX11_draw_4 : decode cX11_draw 4 = .ok (.aload_n 0, 1) := by decide +kernel
theorem dX11_draw_5 : decode cX11_draw 5 = .ok (.getfield 87, 3) := by decide +kernel
theorem dX11_draw_8 : decode cX11_draw 8 = .ok (.imul, 1) := by decide +kernel
theorem dX11_draw_9 : decode cX11_draw 9 = .ok (.sipush 12345, 3) := by decide +kernel
theorem dX11_draw_12 : decode cX11_draw 12 = .ok (.iadd, 1) := by decide +kernel
theorem dX11_draw_13 : decode cX11_draw 13 = .ok (.ldc_w 313, 3) := by decide +kernel
theorem dX11_draw_16 : decode cX11_draw 16 = .ok (.iand, 1) := by decide +kernel
theorem dX11_draw_17 : decode cX11_draw 17 = .ok (.putfield 87, 3) := by decide +kernel
theorem dX11_draw_20 : decode cX11_draw 20 = .ok (.iload_n 1, 1) := by decide +kernel
theorem dX11_draw_21 : decode cX11_draw 21 = .ok (.ifCond .le 15, 3) := by decide +kernel
theorem dX11_draw_24 : decode cX11_draw 24 = .ok (.aload_n 0, 1) := by decide +kernel
theorem dX11_draw_25 : decode cX11_draw 25 = .ok (.getfield 87, 3) := by decide +kernel
theorem dX11_draw_28 : decode cX11_draw 28 = .ok (.bipush 64, 2) := by decide +kernel
theorem dX11_draw_30 : decode cX11_draw 30 = .ok (.idiv, 1) := by decide +kernel
theorem dX11_draw_31 : decode cX11_draw 31 = .ok (.iload_n 1, 1) := by decide +kernel
theorem dX11_draw_32 : decode cX11_draw 32 = .ok (.irem, 1) := by decide +kernel
theorem dX11_draw_33 : decode cX11_draw 33 = .ok (.goto 4, 3) := by decide +kernel
theorem dX11_draw_36 : decode cX11_draw 36 = .ok (.iconst 0, 1) := by decide +kernel
theorem dX11_draw_37 : decode cX11_draw 37 = .ok (.ireturn, 1) := by decide +kernel
theorem dX11_move_0 : decode cX11_move 0 = .ok (.aload_n 0, 1) := by decide +kernel
theorem dX11_move_1 : decode cX11_move 1 = .ok (.getfield 39, 3) := by decide +kernel
theorem dX11_move_4 : decode cX11_move 4 = .ok (.iload_n 1, 1) := by decide +kernel
theorem dX11_move_5 : decode cX11_move 5 = .ok (.iload_n 2, 1) := by decide +kernel
theorem dX11_move_6 : decode cX11_move 6 = .ok (.invokevirtual 314, 3) := by decide +kernel
theorem dX11_move_9 : decode cX11_move 9 = .ok (.ifCond .ne 11, 3) := by decide +kernel
theorem dX11_move_12 : decode cX11_move 12 = .ok (.aload_n 0, 1) := by decide +kernel
theorem dX11_move_13 : decode cX11_move 13 = .ok (.iconst 3, 1) := by decide +kernel
theorem dX11_move_14 : decode cX11_move 14 = .ok (.invokevirtual 100, 3) := by decide +kernel
theorem dX11_move_17 : decode cX11_move 17 = .ok (.pop, 1) := by decide +kernel
theorem dX11_move_18 : decode cX11_move 18 = .ok (.iconst 0, 1) := by decide +kernel
theorem dX11_move_19 : decode cX11_move 19 = .ok (.ireturn, 1) := by decide +kernel
theorem dX11_move_20 : decode cX11_move 20 = .ok (.aload_n 0, 1) := by decide +kernel
theorem dX11_move_21 : decode cX11_move 21 = .ok (.invokevirtual 303, 3) := by decide +kernel
theorem dX11_move_24 : decode cX11_move 24 = .ok (.aload_n 0, 1) := by decide +kernel
theorem dX11_move_25 : decode cX11_move 25 = .ok (.getfield 39, 3) := by decide +kernel
theorem dX11_move_28 : decode cX11_move 28 = .ok (.getfield 210, 3) := by decide +kernel
theorem dX11_move_31 : decode cX11_move 31 = .ok (.iload_n 1, 1) := by decide +kernel
theorem dX11_move_32 : decode cX11_move 32 = .ok (.iload_n 2, 1) := by decide +kernel
theorem dX11_move_33 : decode cX11_move 33 = .ok (.iastore, 1) := by decide +kernel
theorem dX11_move_34 : decode cX11_move 34 = .ok (.iconst 1, 1) := by decide +kernel
theorem dX11_move_35 : decode cX11_move 35 = .ok (.ireturn, 1) := by decide +kernel
theorem dX11_pour_0 : decode cX11_pour 0 = .ok (.aload_n 0, 1) := by decide +kernel
theorem dX11_pour_1 : decode cX11_pour 1 = .ok (.getfield 39, 3) := by decide +kernel
theorem dX11_pour_4 : decode cX11_pour 4 = .ok (.iload_n 1, 1) := by decide +kernel
theorem dX11_pour_5 : decode cX11_pour 5 = .ok (.iload_n 2, 1) := by decide +kernel
theorem dX11_pour_6 : decode cX11_pour 6 = .ok (.invokevirtual 317, 3) := by decide +kernel
theorem dX11_pour_9 : decode cX11_pour 9 = .ok (.ifCond .ne 9, 3) := by decide +kernel
theorem dX11_pour_12 : decode cX11_pour 12 = .ok (.aload_n 0, 1) := by decide +kernel
theorem dX11_pour_13 : decode cX11_pour 13 = .ok (.iconst 3, 1) := by decide +kernel
theorem dX11_pour_14 : decode cX11_pour 14 = .ok (.invokevirtual 100, 3) := by decide +kernel
theorem dX11_pour_17 : decode cX11_pour 17 = .ok (.ireturn, 1) := by decide +kernel
theorem dX11_pour_18 : decode cX11_pour 18 = .ok (.aload_n 0, 1) := by decide +kernel
theorem dX11_pour_19 : decode cX11_pour 19 = .ok (.invokevirtual 303, 3) := by decide +kernel
theorem dX11_pour_22 : decode cX11_pour 22 = .ok (.aload_n 0, 1) := by decide +kernel
theorem dX11_pour_23 : decode cX11_pour 23 = .ok (.getfield 39, 3) := by decide +kernel
theorem dX11_pour_26 : decode cX11_pour 26 = .ok (.getfield 207, 3) := by decide +kernel
theorem dX11_pour_29 : decode cX11_pour 29 = .ok (.iload_n 1, 1) := by decide +kernel
theorem dX11_pour_30 : decode cX11_pour 30 = .ok (.dup2, 1) := by decide +kernel
theorem dX11_pour_31 : decode cX11_pour 31 = .ok (.iaload, 1) := by decide +kernel
theorem dX11_pour_32 : decode cX11_pour 32 = .ok (.aload_n 0, 1) := by decide +kernel
theorem dX11_pour_33 : decode cX11_pour 33 = .ok (.getfield 39, 3) := by decide +kernel
theorem dX11_pour_36 : decode cX11_pour 36 = .ok (.getfield 207, 3) := by decide +kernel
theorem dX11_pour_39 : decode cX11_pour 39 = .ok (.iload_n 2, 1) := by decide +kernel
theorem dX11_pour_40 : decode cX11_pour 40 = .ok (.iaload, 1) := by decide +kernel
theorem dX11_pour_41 : decode cX11_pour 41 = .ok (.iadd, 1) := by decide +kernel
theorem dX11_pour_42 : decode cX11_pour 42 = .ok (.iastore, 1) := by decide +kernel
theorem dX11_pour_43 : decode cX11_pour 43 = .ok (.aload_n 0, 1) := by decide +kernel
theorem dX11_pour_44 : decode cX11_pour 44 = .ok (.getfield 39, 3) := by decide +kernel
theorem dX11_pour_47 : decode cX11_pour 47 = .ok (.iload_n 2, 1) := by decide +kernel
theorem dX11_pour_48 : decode cX11_pour 48 = .ok (.iconst 0, 1) := by decide +kernel
theorem dX11_pour_49 : decode cX11_pour 49 = .ok (.invokevirtual 320, 3) := by decide +kernel
theorem dX11_pour_52 : decode cX11_pour 52 = .ok (.aload_n 0, 1) := by decide +kernel
theorem dX11_pour_53 : decode cX11_pour 53 = .ok (.getfield 39, 3) := by decide +kernel
theorem dX11_pour_56 : decode cX11_pour 56 = .ok (.getfield 207, 3) := by decide +kernel
theorem dX11_pour_59 : decode cX11_pour 59 = .ok (.iload_n 1, 1) := by decide +kernel
theorem dX11_pour_60 : decode cX11_pour 60 = .ok (.iaload, 1) := by decide +kernel
theorem dX11_pour_61 : decode cX11_pour 61 = .ok (.ireturn, 1) := by decide +kernel
theorem dX11_part_0 : decode cX11_part 0 = .ok (.aload_n 0, 1) := by decide +kernel
theorem dX11_part_1 : decode cX11_part 1 = .ok (.getfield 39, 3) := by decide +kernel
theorem dX11_part_4 : decode cX11_part 4 = .ok (.invokevirtual 324, 3) := by decide +kernel
theorem dX11_part_7 : decode cX11_part 7 = .ok (.istore_n 3, 1) := by decide +kernel
theorem dX11_part_8 : decode cX11_part 8 = .ok (.aload_n 0, 1) := by decide +kernel
theorem dX11_part_9 : decode cX11_part 9 = .ok (.getfield 39, 3) := by decide +kernel
theorem dX11_part_12 : decode cX11_part 12 = .ok (.iload_n 1, 1) := by decide +kernel
theorem dX11_part_13 : decode cX11_part 13 = .ok (.invokevirtual 254, 3) := by decide +kernel
theorem dX11_part_16 : decode cX11_part 16 = .ok (.ifCond .eq 26, 3) := by decide +kernel
theorem dX11_part_19 : decode cX11_part 19 = .ok (.iload_n 3, 1) := by decide +kernel
theorem dX11_part_20 : decode cX11_part 20 = .ok (.iconst (-1), 1) := by decide +kernel
theorem dX11_part_21 : decode cX11_part 21 = .ok (.if_icmp .eq 21, 3) := by decide +kernel
theorem dX11_part_24 : decode cX11_part 24 = .ok (.iload_n 2, 1) := by decide +kernel
theorem dX11_part_25 : decode cX11_part 25 = .ok (.iconst 1, 1) := by decide +kernel
theorem dX11_part_26 : decode cX11_part 26 = .ok (.if_icmp .lt 16, 3) := by decide +kernel
theorem dX11_part_29 : decode cX11_part 29 = .ok (.iload_n 2, 1) := by decide +kernel
theorem dX11_part_30 : decode cX11_part 30 = .ok (.aload_n 0, 1) := by decide +kernel
theorem dX11_part_31 : decode cX11_part 31 = .ok (.getfield 39, 3) := by decide +kernel
theorem dX11_part_34 : decode cX11_part 34 = .ok (.getfield 207, 3) := by decide +kernel
theorem dX11_part_37 : decode cX11_part 37 = .ok (.iload_n 1, 1) := by decide +kernel
theorem dX11_part_38 : decode cX11_part 38 = .ok (.iaload, 1) := by decide +kernel
theorem dX11_part_39 : decode cX11_part 39 = .ok (.if_icmp .lt 9, 3) := by decide +kernel
theorem dX11_part_42 : decode cX11_part 42 = .ok (.aload_n 0, 1) := by decide +kernel
theorem dX11_part_43 : decode cX11_part 43 = .ok (.iconst 3, 1) := by decide +kernel
theorem dX11_part_44 : decode cX11_part 44 = .ok (.invokevirtual 100, 3) := by decide +kernel
theorem dX11_part_47 : decode cX11_part 47 = .ok (.ireturn, 1) := by decide +kernel
theorem dX11_part_48 : decode cX11_part 48 = .ok (.aload_n 0, 1) := by decide +kernel
theorem dX11_part_49 : decode cX11_part 49 = .ok (.invokevirtual 303, 3) := by decide +kernel
theorem dX11_part_52 : decode cX11_part 52 = .ok (.aload_n 0, 1) := by decide +kernel
theorem dX11_part_53 : decode cX11_part 53 = .ok (.getfield 39, 3) := by decide +kernel
theorem dX11_part_56 : decode cX11_part 56 = .ok (.getfield 207, 3) := by decide +kernel
theorem dX11_part_59 : decode cX11_part 59 = .ok (.iload_n 1, 1) := by decide +kernel
theorem dX11_part_60 : decode cX11_part 60 = .ok (.dup2, 1) := by decide +kernel
theorem dX11_part_61 : decode cX11_part 61 = .ok (.iaload, 1) := by decide +kernel
theorem dX11_part_62 : decode cX11_part 62 = .ok (.iload_n 2, 1) := by decide +kernel
theorem dX11_part_63 : decode cX11_part 63 = .ok (.isub, 1) := by decide +kernel
theorem dX11_part_64 : decode cX11_part 64 = .ok (.iastore, 1) := by decide +kernel
theorem dX11_part_65 : decode cX11_part 65 = .ok (.aload_n 0, 1) := by decide +kernel
theorem dX11_part_66 : decode cX11_part 66 = .ok (.getfield 39, 3) := by decide +kernel
theorem dX11_part_69 : decode cX11_part 69 = .ok (.getfield 207, 3) := by decide +kernel
theorem dX11_part_72 : decode cX11_part 72 = .ok (.iload_n 3, 1) := by decide +kernel
theorem dX11_part_73 : decode cX11_part 73 = .ok (.iload_n 2, 1) := by decide +kernel
theorem dX11_part_74 : decode cX11_part 74 = .ok (.iastore, 1) := by decide +kernel
theorem dX11_part_75 : decode cX11_part 75 = .ok (.aload_n 0, 1) := by decide +kernel
theorem dX11_part_76 : decode cX11_part 76 = .ok (.getfield 39, 3) := by decide +kernel
theorem dX11_part_79 : decode cX11_part 79 = .ok (.getfield 210, 3) := by decide +kernel
theorem dX11_part_82 : decode cX11_part 82 = .ok (.iload_n 3, 1) := by decide +kernel
theorem dX11_part_83 : decode cX11_part 83 = .ok (.aload_n 0, 1) := by decide +kernel
theorem dX11_part_84 : decode cX11_part 84 = .ok (.getfield 39, 3) := by decide +kernel
theorem dX11_part_87 : decode cX11_part 87 = .ok (.getfield 210, 3) := by decide +kernel
theorem dX11_part_90 : decode cX11_part 90 = .ok (.iload_n 1, 1) := by decide +kernel
theorem dX11_part_91 : decode cX11_part 91 = .ok (.iaload, 1) := by decide +kernel
theorem dX11_part_92 : decode cX11_part 92 = .ok (.iastore, 1) := by decide +kernel
theorem dX11_part_93 : decode cX11_part 93 = .ok (.aload_n 0, 1) := by decide +kernel
theorem dX11_part_94 : decode cX11_part 94 = .ok (.getfield 39, 3) := by decide +kernel
theorem dX11_part_97 : decode cX11_part 97 = .ok (.getfield 213, 3) := by decide +kernel
theorem dX11_part_100 : decode cX11_part 100 = .ok (.iload_n 3, 1) := by decide +kernel
theorem dX11_part_101 : decode cX11_part 101 = .ok (.aload_n 0, 1) := by decide +kernel
theorem dX11_part_102 : decode cX11_part 102 = .ok (.getfield 39, 3) := by decide +kernel
theorem dX11_part_105 : decode cX11_part 105 = .ok (.getfield 213, 3) := by decide +kernel
theorem dX11_part_108 : decode cX11_part 108 = .ok (.iload_n 1, 1) := by decide +kernel
theorem dX11_part_109 : decode cX11_part 109 = .ok (.iaload, 1) := by decide +kernel
theorem dX11_part_110 : decode cX11_part 110 = .ok (.iastore, 1) := by decide +kernel
theorem dX11_part_111 : decode cX11_part 111 = .ok (.iload_n 3, 1) := by decide +kernel
theorem dX11_part_112 : decode cX11_part 112 = .ok (.ireturn, 1) := by decide +kernel
theorem dX11_pay_0 : decode cX11_pay 0 = .ok (.aload_n 0, 1) := by decide +kernel
theorem dX11_pay_1 : decode cX11_pay 1 = .ok (.getfield 39, 3) := by decide +kernel
theorem dX11_pay_4 : decode cX11_pay 4 = .ok (.iload_n 1, 1) := by decide +kernel
theorem dX11_pay_5 : decode cX11_pay 5 = .ok (.iload_n 2, 1) := by decide +kernel
theorem dX11_pay_6 : decode cX11_pay 6 = .ok (.invokevirtual 237, 3) := by decide +kernel
theorem dX11_pay_9 : decode cX11_pay 9 = .ok (.ifCond .eq 22, 3) := by decide +kernel
theorem dX11_pay_12 : decode cX11_pay 12 = .ok (.iload_n 3, 1) := by decide +kernel
theorem dX11_pay_13 : decode cX11_pay 13 = .ok (.ifCond .le 18, 3) := by decide +kernel
theorem dX11_pay_16 : decode cX11_pay 16 = .ok (.iload_n 3, 1) := by decide +kernel
theorem dX11_pay_17 : decode cX11_pay 17 = .ok (.aload_n 0, 1) := by decide +kernel
theorem dX11_pay_18 : decode cX11_pay 18 = .ok (.getfield 39, 3) := by decide +kernel
theorem dX11_pay_21 : decode cX11_pay 21 = .ok (.iload_n 1, 1) := by decide +kernel
theorem dX11_pay_22 : decode cX11_pay 22 = .ok (.invokevirtual 222, 3) := by decide +kernel
theorem dX11_pay_25 : decode cX11_pay 25 = .ok (.iconst (-1), 1) := by decide +kernel
theorem dX11_pay_26 : decode cX11_pay 26 = .ok (.ixor, 1) := by decide +kernel
theorem dX11_pay_27 : decode cX11_pay 27 = .ok (.iand, 1) := by decide +kernel
theorem dX11_pay_28 : decode cX11_pay 28 = .ok (.ifCond .eq 9, 3) := by decide +kernel
theorem dX11_pay_31 : decode cX11_pay 31 = .ok (.aload_n 0, 1) := by decide +kernel
theorem dX11_pay_32 : decode cX11_pay 32 = .ok (.iconst 3, 1) := by decide +kernel
theorem dX11_pay_33 : decode cX11_pay 33 = .ok (.invokevirtual 100, 3) := by decide +kernel
theorem dX11_pay_36 : decode cX11_pay 36 = .ok (.ireturn, 1) := by decide +kernel
theorem dX11_pay_37 : decode cX11_pay 37 = .ok (.aload_n 0, 1) := by decide +kernel
theorem dX11_pay_38 : decode cX11_pay 38 = .ok (.getfield 39, 3) := by decide +kernel
theorem dX11_pay_41 : decode cX11_pay 41 = .ok (.iload_n 3, 1) := by decide +kernel
theorem dX11_pay_42 : decode cX11_pay 42 = .ok (.invokevirtual 327, 3) := by decide +kernel
theorem dX11_pay_45 : decode cX11_pay 45 = .ok (.istore 4, 2) := by decide +kernel
theorem dX11_pay_47 : decode cX11_pay 47 = .ok (.aload_n 0, 1) := by decide +kernel
theorem dX11_pay_48 : decode cX11_pay 48 = .ok (.getfield 39, 3) := by decide +kernel
theorem dX11_pay_51 : decode cX11_pay 51 = .ok (.getfield 241, 3) := by decide +kernel
theorem dX11_pay_54 : decode cX11_pay 54 = .ok (.iload_n 1, 1) := by decide +kernel
theorem dX11_pay_55 : decode cX11_pay 55 = .ok (.bipush 6, 2) := by decide +kernel
theorem dX11_pay_57 : decode cX11_pay 57 = .ok (.imul, 1) := by decide +kernel
theorem dX11_pay_58 : decode cX11_pay 58 = .ok (.iload_n 2, 1) := by decide +kernel
theorem dX11_pay_59 : decode cX11_pay 59 = .ok (.iadd, 1) := by decide +kernel
theorem dX11_pay_60 : decode cX11_pay 60 = .ok (.iaload, 1) := by decide +kernel
theorem dX11_pay_61 : decode cX11_pay 61 = .ok (.istore 5, 2) := by decide +kernel
theorem dX11_pay_63 : decode cX11_pay 63 = .ok (.aload_n 0, 1) := by decide +kernel
theorem dX11_pay_64 : decode cX11_pay 64 = .ok (.getfield 39, 3) := by decide +kernel
theorem dX11_pay_67 : decode cX11_pay 67 = .ok (.getfield 241, 3) := by decide +kernel
theorem dX11_pay_70 : decode cX11_pay 70 = .ok (.iload_n 2, 1) := by decide +kernel
theorem dX11_pay_71 : decode cX11_pay 71 = .ok (.bipush 6, 2) := by decide +kernel
theorem dX11_pay_73 : decode cX11_pay 73 = .ok (.imul, 1) := by decide +kernel
theorem dX11_pay_74 : decode cX11_pay 74 = .ok (.iload_n 1, 1) := by decide +kernel
theorem dX11_pay_75 : decode cX11_pay 75 = .ok (.iadd, 1) := by decide +kernel
theorem dX11_pay_76 : decode cX11_pay 76 = .ok (.iaload, 1) := by decide +kernel
theorem dX11_pay_77 : decode cX11_pay 77 = .ok (.iconst 0, 1) := by decide +kernel
theorem dX11_pay_78 : decode cX11_pay 78 = .ok (.iload 4, 2) := by decide +kernel
theorem dX11_pay_80 : decode cX11_pay 80 = .ok (.iload 5, 2) := by decide +kernel
theorem dX11_pay_82 : decode cX11_pay 82 = .ok (.isub, 1) := by decide +kernel
theorem dX11_pay_83 : decode cX11_pay 83 = .ok (.invokestatic 294, 3) := by decide +kernel
theorem dX11_pay_86 : decode cX11_pay 86 = .ok (.iadd, 1) := by decide +kernel
theorem dX11_pay_87 : decode cX11_pay 87 = .ok (.istore 6, 2) := by decide +kernel
theorem dX11_pay_89 : decode cX11_pay 89 = .ok (.iload 6, 2) := by decide +kernel
theorem dX11_pay_91 : decode cX11_pay 91 = .ok (.sipush 9999, 3) := by decide +kernel
theorem dX11_pay_94 : decode cX11_pay 94 = .ok (.if_icmp .le 9, 3) := by decide +kernel
theorem dX11_pay_97 : decode cX11_pay 97 = .ok (.aload_n 0, 1) := by decide +kernel
theorem dX11_pay_98 : decode cX11_pay 98 = .ok (.iconst 3, 1) := by decide +kernel
theorem dX11_pay_99 : decode cX11_pay 99 = .ok (.invokevirtual 100, 3) := by decide +kernel
theorem dX11_pay_102 : decode cX11_pay 102 = .ok (.ireturn, 1) := by decide +kernel
theorem dX11_pay_103 : decode cX11_pay 103 = .ok (.aload_n 0, 1) := by decide +kernel
theorem dX11_pay_104 : decode cX11_pay 104 = .ok (.invokevirtual 303, 3) := by decide +kernel
theorem dX11_pay_107 : decode cX11_pay 107 = .ok (.aload_n 0, 1) := by decide +kernel
theorem dX11_pay_108 : decode cX11_pay 108 = .ok (.getfield 39, 3) := by decide +kernel
theorem dX11_pay_111 : decode cX11_pay 111 = .ok (.getfield 241, 3) := by decide +kernel
theorem dX11_pay_114 : decode cX11_pay 114 = .ok (.iload_n 1, 1) := by decide +kernel
theorem dX11_pay_115 : decode cX11_pay 115 = .ok (.bipush 6, 2) := by decide +kernel
theorem dX11_pay_117 : decode cX11_pay 117 = .ok (.imul, 1) := by decide +kernel
theorem dX11_pay_118 : decode cX11_pay 118 = .ok (.iload_n 2, 1) := by decide +kernel
theorem dX11_pay_119 : decode cX11_pay 119 = .ok (.iadd, 1) := by decide +kernel
theorem dX11_pay_120 : decode cX11_pay 120 = .ok (.iconst 0, 1) := by decide +kernel
theorem dX11_pay_121 : decode cX11_pay 121 = .ok (.iload 5, 2) := by decide +kernel
theorem dX11_pay_123 : decode cX11_pay 123 = .ok (.iload 4, 2) := by decide +kernel
theorem dX11_pay_125 : decode cX11_pay 125 = .ok (.isub, 1) := by decide +kernel
theorem dX11_pay_126 : decode cX11_pay 126 = .ok (.invokestatic 294, 3) := by decide +kernel
theorem dX11_pay_129 : decode cX11_pay 129 = .ok (.iastore, 1) := by decide +kernel
theorem dX11_pay_130 : decode cX11_pay 130 = .ok (.aload_n 0, 1) := by decide +kernel
theorem dX11_pay_131 : decode cX11_pay 131 = .ok (.getfield 39, 3) := by decide +kernel
theorem dX11_pay_134 : decode cX11_pay 134 = .ok (.getfield 241, 3) := by decide +kernel
theorem dX11_pay_137 : decode cX11_pay 137 = .ok (.iload_n 2, 1) := by decide +kernel
theorem dX11_pay_138 : decode cX11_pay 138 = .ok (.bipush 6, 2) := by decide +kernel
theorem dX11_pay_140 : decode cX11_pay 140 = .ok (.imul, 1) := by decide +kernel
theorem dX11_pay_141 : decode cX11_pay 141 = .ok (.iload_n 1, 1) := by decide +kernel
theorem dX11_pay_142 : decode cX11_pay 142 = .ok (.iadd, 1) := by decide +kernel
theorem dX11_pay_143 : decode cX11_pay 143 = .ok (.iload 6, 2) := by decide +kernel
theorem dX11_pay_145 : decode cX11_pay 145 = .ok (.iastore, 1) := by decide +kernel
theorem dX11_pay_146 : decode cX11_pay 146 = .ok (.aload_n 0, 1) := by decide +kernel
theorem dX11_pay_147 : decode cX11_pay 147 = .ok (.getfield 39, 3) := by decide +kernel
theorem dX11_pay_150 : decode cX11_pay 150 = .ok (.iload_n 3, 1) := by decide +kernel
theorem dX11_pay_151 : decode cX11_pay 151 = .ok (.iload_n 2, 1) := by decide +kernel
theorem dX11_pay_152 : decode cX11_pay 152 = .ok (.invokevirtual 330, 3) := by decide +kernel
theorem dX11_pay_155 : decode cX11_pay 155 = .ok (.aload_n 0, 1) := by decide +kernel
theorem dX11_pay_156 : decode cX11_pay 156 = .ok (.getfield 56, 3) := by decide +kernel
theorem dX11_pay_159 : decode cX11_pay 159 = .ok (.aload_n 0, 1) := by decide +kernel
theorem dX11_pay_160 : decode cX11_pay 160 = .ok (.getfield 39, 3) := by decide +kernel
theorem dX11_pay_163 : decode cX11_pay 163 = .ok (.getfield 151, 3) := by decide +kernel
theorem dX11_pay_166 : decode cX11_pay 166 = .ok (.iload_n 1, 1) := by decide +kernel
theorem dX11_pay_167 : decode cX11_pay 167 = .ok (.iload_n 2, 1) := by decide +kernel
theorem dX11_pay_168 : decode cX11_pay 168 = .ok (.iload 4, 2) := by decide +kernel
theorem dX11_pay_170 : decode cX11_pay 170 = .ok (.invokevirtual 333, 3) := by decide +kernel
theorem dX11_pay_173 : decode cX11_pay 173 = .ok (.iload 4, 2) := by decide +kernel
theorem dX11_pay_175 : decode cX11_pay 175 = .ok (.ireturn, 1) := by decide +kernel
theorem dX11_strike_0 : decode cX11_strike 0 = .ok (.aload_n 0, 1) := by decide +kernel
theorem dX11_strike_1 : decode cX11_strike 1 = .ok (.invokevirtual 108, 3) := by decide +kernel
theorem dX11_strike_4 : decode cX11_strike 4 = .ok (.istore_n 1, 1) := by decide +kernel
theorem dX11_strike_5 : decode cX11_strike 5 = .ok (.aload_n 0, 1) := by decide +kernel
theorem dX11_strike_6 : decode cX11_strike 6 = .ok (.iload_n 1, 1) := by decide +kernel
theorem dX11_strike_7 : decode cX11_strike 7 = .ok (.invokevirtual 337, 3) := by decide +kernel
theorem dX11_strike_10 : decode cX11_strike 10 = .ok (.ifCond .ne 9, 3) := by decide +kernel
theorem dX11_strike_13 : decode cX11_strike 13 = .ok (.aload_n 0, 1) := by decide +kernel
theorem dX11_strike_14 : decode cX11_strike 14 = .ok (.iconst 3, 1) := by decide +kernel
theorem dX11_strike_15 : decode cX11_strike 15 = .ok (.invokevirtual 100, 3) := by decide +kernel
theorem dX11_strike_18 : decode cX11_strike 18 = .ok (.ireturn, 1) := by decide +kernel
theorem dX11_strike_19 : decode cX11_strike 19 = .ok (.sipush 9999, 3) := by decide +kernel
theorem dX11_strike_22 : decode cX11_strike 22 = .ok (.istore_n 2, 1) := by decide +kernel
theorem dX11_strike_23 : decode cX11_strike 23 = .ok (.iconst 0, 1) := by decide +kernel
theorem dX11_strike_24 : decode cX11_strike 24 = .ok (.istore_n 3, 1) := by decide +kernel
theorem dX11_strike_25 : decode cX11_strike 25 = .ok (.iload_n 3, 1) := by decide +kernel
theorem dX11_strike_26 : decode cX11_strike 26 = .ok (.iload_n 1, 1) := by decide +kernel
theorem dX11_strike_27 : decode cX11_strike 27 = .ok (.if_icmp .ge 28, 3) := by decide +kernel
theorem dX11_strike_30 : decode cX11_strike 30 = .ok (.iload_n 2, 1) := by decide +kernel
theorem dX11_strike_31 : decode cX11_strike 31 = .ok (.aload_n 0, 1) := by decide +kernel
theorem dX11_strike_32 : decode cX11_strike 32 = .ok (.getfield 39, 3) := by decide +kernel
theorem dX11_strike_35 : decode cX11_strike 35 = .ok (.getfield 241, 3) := by decide +kernel
theorem dX11_strike_38 : decode cX11_strike 38 = .ok (.aload_n 0, 1) := by decide +kernel
theorem dX11_strike_39 : decode cX11_strike 39 = .ok (.iload_n 3, 1) := by decide +kernel
theorem dX11_strike_40 : decode cX11_strike 40 = .ok (.iload_n 1, 1) := by decide +kernel
theorem dX11_strike_41 : decode cX11_strike 41 = .ok (.invokevirtual 340, 3) := by decide +kernel
theorem dX11_strike_44 : decode cX11_strike 44 = .ok (.iaload, 1) := by decide +kernel
theorem dX11_strike_45 : decode cX11_strike 45 = .ok (.invokestatic 343, 3) := by decide +kernel
theorem dX11_strike_48 : decode cX11_strike 48 = .ok (.istore_n 2, 1) := by decide +kernel
theorem dX11_strike_49 : decode cX11_strike 49 = .ok (.iinc 3 1, 3) := by decide +kernel
theorem dX11_strike_52 : decode cX11_strike 52 = .ok (.goto (-27), 3) := by decide +kernel
theorem dX11_strike_55 : decode cX11_strike 55 = .ok (.iload_n 2, 1) := by decide +kernel
theorem dX11_strike_56 : decode cX11_strike 56 = .ok (.ifCond .ne 9, 3) := by decide +kernel
theorem dX11_strike_59 : decode cX11_strike 59 = .ok (.aload_n 0, 1) := by decide +kernel
theorem dX11_strike_60 : decode cX11_strike 60 = .ok (.iconst 3, 1) := by decide +kernel
theorem dX11_strike_61 : decode cX11_strike 61 = .ok (.invokevirtual 100, 3) := by decide +kernel
theorem dX11_strike_64 : decode cX11_strike 64 = .ok (.ireturn, 1) := by decide +kernel
theorem dX11_strike_65 : decode cX11_strike 65 = .ok (.aload_n 0, 1) := by decide +kernel
theorem dX11_strike_66 : decode cX11_strike 66 = .ok (.invokevirtual 303, 3) := by decide +kernel
theorem dX11_strike_69 : decode cX11_strike 69 = .ok (.iconst 0, 1) := by decide +kernel
theorem dX11_strike_70 : decode cX11_strike 70 = .ok (.istore_n 3, 1) := by decide +kernel
theorem dX11_strike_71 : decode cX11_strike 71 = .ok (.iload_n 3, 1) := by decide +kernel
theorem dX11_strike_72 : decode cX11_strike 72 = .ok (.iload_n 1, 1) := by decide +kernel
theorem dX11_strike_73 : decode cX11_strike 73 = .ok (.if_icmp .ge 27, 3) := by decide +kernel
theorem dX11_strike_76 : decode cX11_strike 76 = .ok (.aload_n 0, 1) := by decide +kernel
theorem dX11_strike_77 : decode cX11_strike 77 = .ok (.getfield 39, 3) := by decide +kernel
theorem dX11_strike_80 : decode cX11_strike 80 = .ok (.getfield 241, 3) := by decide +kernel
theorem dX11_strike_83 : decode cX11_strike 83 = .ok (.aload_n 0, 1) := by decide +kernel
theorem dX11_strike_84 : decode cX11_strike 84 = .ok (.iload_n 3, 1) := by decide +kernel
theorem dX11_strike_85 : decode cX11_strike 85 = .ok (.iload_n 1, 1) := by decide +kernel
theorem dX11_strike_86 : decode cX11_strike 86 = .ok (.invokevirtual 340, 3) := by decide +kernel
theorem dX11_strike_89 : decode cX11_strike 89 = .ok (.dup2, 1) := by decide +kernel
theorem dX11_strike_90 : decode cX11_strike 90 = .ok (.iaload, 1) := by decide +kernel
theorem dX11_strike_91 : decode cX11_strike 91 = .ok (.iload_n 2, 1) := by decide +kernel
theorem dX11_strike_92 : decode cX11_strike 92 = .ok (.isub, 1) := by decide +kernel
theorem dX11_strike_93 : decode cX11_strike 93 = .ok (.iastore, 1) := by decide +kernel
theorem dX11_strike_94 : decode cX11_strike 94 = .ok (.iinc 3 1, 3) := by decide +kernel
theorem dX11_strike_97 : decode cX11_strike 97 = .ok (.goto (-26), 3) := by decide +kernel
theorem dX11_strike_100 : decode cX11_strike 100 = .ok (.iload_n 2, 1) := by decide +kernel
theorem dX11_strike_101 : decode cX11_strike 101 = .ok (.ireturn, 1) := by decide +kernel
theorem dX11_isRing_0 : decode cX11_isRing 0 = .ok (.iload_n 1, 1) := by decide +kernel
theorem dX11_isRing_1 : decode cX11_isRing 1 = .ok (.iconst 2, 1) := by decide +kernel
theorem dX11_isRing_2 : decode cX11_isRing 2 = .ok (.if_icmp .lt 9, 3) := by decide +kernel
theorem dX11_isRing_5 : decode cX11_isRing 5 = .ok (.iload_n 1, 1) := by decide +kernel
theorem dX11_isRing_6 : decode cX11_isRing 6 = .ok (.bipush 6, 2) := by decide +kernel
theorem dX11_isRing_8 : decode cX11_isRing 8 = .ok (.if_icmp .le 5, 3) := by decide +kernel
theorem dX11_isRing_11 : decode cX11_isRing 11 = .ok (.iconst 0, 1) := by decide +kernel
theorem dX11_isRing_12 : decode cX11_isRing 12 = .ok (.ireturn, 1) := by decide +kernel
theorem dX11_isRing_13 : decode cX11_isRing 13 = .ok (.iconst 0, 1) := by decide +kernel
theorem dX11_isRing_14 : decode cX11_isRing 14 = .ok (.istore_n 2, 1) := by decide +kernel
theorem dX11_isRing_15 : decode cX11_isRing 15 = .ok (.iconst 0, 1) := by decide +kernel
theorem dX11_isRing_16 : decode cX11_isRing 16 = .ok (.istore_n 3, 1) := by decide +kernel
theorem dX11_isRing_17 : decode cX11_isRing 17 = .ok (.iload_n 3, 1) := by decide +kernel
theorem dX11_isRing_18 : decode cX11_isRing 18 = .ok (.iload_n 1, 1) := by decide +kernel
theorem dX11_isRing_19 : decode cX11_isRing 19 = .ok (.if_icmp .ge 51, 3) := by decide +kernel
theorem dX11_isRing_22 : decode cX11_isRing 22 = .ok (.aload_n 0, 1) := by decide +kernel
theorem dX11_isRing_23 : decode cX11_isRing 23 = .ok (.getfield 39, 3) := by decide +kernel
theorem dX11_isRing_26 : decode cX11_isRing 26 = .ok (.aload_n 0, 1) := by decide +kernel
theorem dX11_isRing_27 : decode cX11_isRing 27 = .ok (.getfield 9, 3) := by decide +kernel
theorem dX11_isRing_30 : decode cX11_isRing 30 = .ok (.iload_n 3, 1) := by decide +kernel
theorem dX11_isRing_31 : decode cX11_isRing 31 = .ok (.iaload, 1) := by decide +kernel
theorem dX11_isRing_32 : decode cX11_isRing 32 = .ok (.invokevirtual 183, 3) := by decide +kernel
theorem dX11_isRing_35 : decode cX11_isRing 35 = .ok (.ifCond .eq 16, 3) := by decide +kernel
theorem dX11_isRing_38 : decode cX11_isRing 38 = .ok (.iload_n 2, 1) := by decide +kernel
theorem dX11_isRing_39 : decode cX11_isRing 39 = .ok (.iconst 1, 1) := by decide +kernel
theorem dX11_isRing_40 : decode cX11_isRing 40 = .ok (.aload_n 0, 1) := by decide +kernel
theorem dX11_isRing_41 : decode cX11_isRing 41 = .ok (.getfield 9, 3) := by decide +kernel
theorem dX11_isRing_44 : decode cX11_isRing 44 = .ok (.iload_n 3, 1) := by decide +kernel
theorem dX11_isRing_45 : decode cX11_isRing 45 = .ok (.iaload, 1) := by decide +kernel
theorem dX11_isRing_46 : decode cX11_isRing 46 = .ok (.ishl, 1) := by decide +kernel
theorem dX11_isRing_47 : decode cX11_isRing 47 = .ok (.iand, 1) := by decide +kernel
theorem dX11_isRing_48 : decode cX11_isRing 48 = .ok (.ifCond .eq 5, 3) := by decide +kernel
theorem dX11_isRing_51 : decode cX11_isRing 51 = .ok (.iconst 0, 1) := by decide +kernel
theorem dX11_isRing_52 : decode cX11_isRing 52 = .ok (.ireturn, 1) := by decide +kernel
theorem dX11_isRing_53 : decode cX11_isRing 53 = .ok (.iload_n 2, 1) := by decide +kernel
theorem dX11_isRing_54 : decode cX11_isRing 54 = .ok (.iconst 1, 1) := by decide +kernel
theorem dX11_isRing_55 : decode cX11_isRing 55 = .ok (.aload_n 0, 1) := by decide +kernel
theorem dX11_isRing_56 : decode cX11_isRing 56 = .ok (.getfield 9, 3) := by decide +kernel
theorem dX11_isRing_59 : decode cX11_isRing 59 = .ok (.iload_n 3, 1) := by decide +kernel
theorem dX11_isRing_60 : decode cX11_isRing 60 = .ok (.iaload, 1) := by decide +kernel
theorem dX11_isRing_61 : decode cX11_isRing 61 = .ok (.ishl, 1) := by decide +kernel
theorem dX11_isRing_62 : decode cX11_isRing 62 = .ok (.ior, 1) := by decide +kernel
theorem dX11_isRing_63 : decode cX11_isRing 63 = .ok (.istore_n 2, 1) := by decide +kernel
theorem dX11_isRing_64 : decode cX11_isRing 64 = .ok (.iinc 3 1, 3) := by decide +kernel
theorem dX11_isRing_67 : decode cX11_isRing 67 = .ok (.goto (-50), 3) := by decide +kernel
theorem dX11_isRing_70 : decode cX11_isRing 70 = .ok (.iconst 1, 1) := by decide +kernel
theorem dX11_isRing_71 : decode cX11_isRing 71 = .ok (.ireturn, 1) := by decide +kernel
theorem dX11_debtInRing_0 : decode cX11_debtInRing 0 = .ok (.iload_n 1, 1) := by decide +kernel
theorem dX11_debtInRing_1 : decode cX11_debtInRing 1 = .ok (.iconst 1, 1) := by decide +kernel
theorem dX11_debtInRing_2 : decode cX11_debtInRing 2 = .ok (.iadd, 1) := by decide +kernel
theorem dX11_debtInRing_3 : decode cX11_debtInRing 3 = .ok (.iload_n 2, 1) := by decide +kernel
theorem dX11_debtInRing_4 : decode cX11_debtInRing 4 = .ok (.if_icmp .ge 9, 3) := by decide +kernel
theorem dX11_debtInRing_7 : decode cX11_debtInRing 7 = .ok (.iload_n 1, 1) := by decide +kernel
theorem dX11_debtInRing_8 : decode cX11_debtInRing 8 = .ok (.iconst 1, 1) := by decide +kernel
theorem dX11_debtInRing_9 : decode cX11_debtInRing 9 = .ok (.iadd, 1) := by decide +kernel
theorem dX11_debtInRing_10 : decode cX11_debtInRing 10 = .ok (.goto 4, 3) := by decide +kernel
theorem dX11_debtInRing_13 : decode cX11_debtInRing 13 = .ok (.iconst 0, 1) := by decide +kernel
theorem dX11_debtInRing_14 : decode cX11_debtInRing 14 = .ok (.istore_n 3, 1) := by decide +kernel
theorem dX11_debtInRing_15 : decode cX11_debtInRing 15 = .ok (.aload_n 0, 1) := by decide +kernel
theorem dX11_debtInRing_16 : decode cX11_debtInRing 16 = .ok (.getfield 9, 3) := by decide +kernel
theorem dX11_debtInRing_19 : decode cX11_debtInRing 19 = .ok (.iload_n 1, 1) := by decide +kernel
theorem dX11_debtInRing_20 : decode cX11_debtInRing 20 = .ok (.iaload, 1) := by decide +kernel
theorem dX11_debtInRing_21 : decode cX11_debtInRing 21 = .ok (.bipush 6, 2) := by decide +kernel
theorem dX11_debtInRing_23 : decode cX11_debtInRing 23 = .ok (.imul, 1) := by decide +kernel
theorem dX11_debtInRing_24 : decode cX11_debtInRing 24 = .ok (.aload_n 0, 1) := by decide +kernel
theorem dX11_debtInRing_25 : decode cX11_debtInRing 25 = .ok (.getfield 9, 3) := by decide +kernel
theorem dX11_debtInRing_28 : decode cX11_debtInRing 28 = .ok (.iload_n 3, 1) := by decide +kernel
theorem dX11_debtInRing_29 : decode cX11_debtInRing 29 = .ok (.iaload, 1) := by decide +kernel
theorem dX11_debtInRing_30 : decode cX11_debtInRing 30 = .ok (.iadd, 1) := by decide +kernel
theorem dX11_debtInRing_31 : decode cX11_debtInRing 31 = .ok (.ireturn, 1) := by decide +kernel
theorem dX11_undo_0 : decode cX11_undo 0 = .ok (.aload_n 0, 1) := by decide +kernel
theorem dX11_undo_1 : decode cX11_undo 1 = .ok (.getfield 49, 3) := by decide +kernel
theorem dX11_undo_4 : decode cX11_undo 4 = .ok (.getfield 169, 3) := by decide +kernel
theorem dX11_undo_7 : decode cX11_undo 7 = .ok (.ifCond .ne 11, 3) := by decide +kernel
theorem dX11_undo_10 : decode cX11_undo 10 = .ok (.aload_n 0, 1) := by decide +kernel
theorem dX11_undo_11 : decode cX11_undo 11 = .ok (.iconst 4, 1) := by decide +kernel
theorem dX11_undo_12 : decode cX11_undo 12 = .ok (.invokevirtual 100, 3) := by decide +kernel
theorem dX11_undo_15 : decode cX11_undo 15 = .ok (.pop, 1) := by decide +kernel
theorem dX11_undo_16 : decode cX11_undo 16 = .ok (.iconst 0, 1) := by decide +kernel
theorem dX11_undo_17 : decode cX11_undo 17 = .ok (.ireturn, 1) := by decide +kernel
theorem dX11_undo_18 : decode cX11_undo 18 = .ok (.aload_n 0, 1) := by decide +kernel
theorem dX11_undo_19 : decode cX11_undo 19 = .ok (.getfield 56, 3) := by decide +kernel
theorem dX11_undo_22 : decode cX11_undo 22 = .ok (.aload_n 0, 1) := by decide +kernel
theorem dX11_undo_23 : decode cX11_undo 23 = .ok (.getfield 49, 3) := by decide +kernel
theorem dX11_undo_26 : decode cX11_undo 26 = .ok (.aload_n 0, 1) := by decide +kernel
theorem dX11_undo_27 : decode cX11_undo 27 = .ok (.getfield 39, 3) := by decide +kernel
theorem dX11_undo_30 : decode cX11_undo 30 = .ok (.invokevirtual 346, 3) := by decide +kernel
theorem dX11_undo_33 : decode cX11_undo 33 = .ok (.putfield 139, 3) := by decide +kernel
theorem dX11_undo_36 : decode cX11_undo 36 = .ok (.iconst 1, 1) := by decide +kernel
theorem dX11_undo_37 : decode cX11_undo 37 = .ok (.ireturn, 1) := by decide +kernel
theorem dX11_seed_0 : decode cX11_seed 0 = .ok (.iload_n 1, 1) := by decide +kernel
theorem dX11_seed_1 : decode cX11_seed 1 = .ok (.ifCond .ge 11, 3) := by decide +kernel
theorem dX11_seed_4 : decode cX11_seed 4 = .ok (.aload_n 0, 1) := by decide +kernel
theorem dX11_seed_5 : decode cX11_seed 5 = .ok (.iconst 5, 1) := by decide +kernel
theorem dX11_seed_6 : decode cX11_seed 6 = .ok (.invokevirtual 100, 3) := by decide +kernel
theorem dX11_seed_9 : decode cX11_seed 9 = .ok (.pop, 1) := by decide +kernel
theorem dX11_seed_10 : decode cX11_seed 10 = .ok (.iconst 0, 1) := by decide +kernel
theorem dX11_seed_11 : decode cX11_seed 11 = .ok (.ireturn, 1) := by decide +kernel
theorem dX11_seed_12 : decode cX11_seed 12 = .ok (.aload_n 0, 1) := by decide +kernel
theorem dX11_seed_13 : decode cX11_seed 13 = .ok (.iload_n 1, 1) := by decide +kernel
theorem dX11_seed_14 : decode cX11_seed 14 = .ok (.putfield 87, 3) := by decide +kernel
theorem dX11_seed_17 : decode cX11_seed 17 = .ok (.iconst 1, 1) := by decide +kernel
theorem dX11_seed_18 : decode cX11_seed 18 = .ok (.ireturn, 1) := by decide +kernel
theorem dX11_kept_0 : decode cX11_kept 0 = .ok (.iload_n 1, 1) := by decide +kernel
theorem dX11_kept_1 : decode cX11_kept 1 = .ok (.ifCond .lt 23, 3) := by decide +kernel
theorem dX11_kept_4 : decode cX11_kept 4 = .ok (.iload_n 1, 1) := by decide +kernel
theorem dX11_kept_5 : decode cX11_kept 5 = .ok (.aload_n 0, 1) := by decide +kernel
theorem dX11_kept_6 : decode cX11_kept 6 = .ok (.getfield 56, 3) := by decide +kernel
theorem dX11_kept_9 : decode cX11_kept 9 = .ok (.invokevirtual 166, 3) := by decide +kernel
theorem dX11_kept_12 : decode cX11_kept 12 = .ok (.if_icmp .ge 12, 3) := by decide +kernel
theorem dX11_kept_15 : decode cX11_kept 15 = .ok (.iload_n 2, 1) := by decide +kernel
theorem dX11_kept_16 : decode cX11_kept 16 = .ok (.ifCond .lt 8, 3) := by decide +kernel
theorem dX11_kept_19 : decode cX11_kept 19 = .ok (.iload_n 2, 1) := by decide +kernel
theorem dX11_kept_20 : decode cX11_kept 20 = .ok (.iconst 3, 1) := by decide +kernel
theorem dX11_kept_21 : decode cX11_kept 21 = .ok (.if_icmp .le 5, 3) := by decide +kernel
theorem dX11_kept_24 : decode cX11_kept 24 = .ok (.iconst (-1), 1) := by decide +kernel
theorem dX11_kept_25 : decode cX11_kept 25 = .ok (.ireturn, 1) := by decide +kernel
theorem dX11_kept_26 : decode cX11_kept 26 = .ok (.aload_n 0, 1) := by decide +kernel
theorem dX11_kept_27 : decode cX11_kept 27 = .ok (.getfield 56, 3) := by decide +kernel
theorem dX11_kept_30 : decode cX11_kept 30 = .ok (.iload_n 1, 1) := by decide +kernel
theorem dX11_kept_31 : decode cX11_kept 31 = .ok (.iload_n 2, 1) := by decide +kernel
theorem dX11_kept_32 : decode cX11_kept 32 = .ok (.invokevirtual 349, 3) := by decide +kernel
theorem dX11_kept_35 : decode cX11_kept 35 = .ok (.ireturn, 1) := by decide +kernel
theorem dX11_image_0 : decode cX11_image 0 = .ok (.aload_n 0, 1) := by decide +kernel
theorem dX11_image_1 : decode cX11_image 1 = .ok (.getfield 77, 3) := by decide +kernel
theorem dX11_image_4 : decode cX11_image 4 = .ok (.aload_n 0, 1) := by decide +kernel
theorem dX11_image_5 : decode cX11_image 5 = .ok (.getfield 39, 3) := by decide +kernel
theorem dX11_image_8 : decode cX11_image 8 = .ok (.invokevirtual 352, 3) := by decide +kernel
theorem dX11_image_11 : decode cX11_image 11 = .ok (.aload_n 0, 1) := by decide +kernel
theorem dX11_image_12 : decode cX11_image 12 = .ok (.getfield 77, 3) := by decide +kernel
theorem dX11_image_15 : decode cX11_image 15 = .ok (.getfield 354, 3) := by decide +kernel
theorem dX11_image_18 : decode cX11_image 18 = .ok (.ireturn, 1) := by decide +kernel
theorem dX11_octet_0 : decode cX11_octet 0 = .ok (.iload_n 1, 1) := by decide +kernel
theorem dX11_octet_1 : decode cX11_octet 1 = .ok (.ifCond .lt 14, 3) := by decide +kernel
theorem dX11_octet_4 : decode cX11_octet 4 = .ok (.iload_n 1, 1) := by decide +kernel
theorem dX11_octet_5 : decode cX11_octet 5 = .ok (.aload_n 0, 1) := by decide +kernel
theorem dX11_octet_6 : decode cX11_octet 6 = .ok (.getfield 77, 3) := by decide +kernel
theorem dX11_octet_9 : decode cX11_octet 9 = .ok (.getfield 354, 3) := by decide +kernel
theorem dX11_octet_12 : decode cX11_octet 12 = .ok (.if_icmp .lt 7, 3) := by decide +kernel
theorem dX11_octet_15 : decode cX11_octet 15 = .ok (.iconst (-1), 1) := by decide +kernel
theorem dX11_octet_16 : decode cX11_octet 16 = .ok (.goto 12, 3) := by decide +kernel
theorem dX11_octet_19 : decode cX11_octet 19 = .ok (.aload_n 0, 1) := by decide +kernel
theorem dX11_octet_20 : decode cX11_octet 20 = .ok (.getfield 77, 3) := by decide +kernel
theorem dX11_octet_23 : decode cX11_octet 23 = .ok (.getfield 357, 3) := by decide +kernel
theorem dX11_octet_26 : decode cX11_octet 26 = .ok (.iload_n 1, 1) := by decide +kernel
theorem dX11_octet_27 : decode cX11_octet 27 = .ok (.iaload, 1) := by decide +kernel
theorem dX11_octet_28 : decode cX11_octet 28 = .ok (.ireturn, 1) := by decide +kernel
theorem dX11_on_0 : decode cX11_on 0 = .ok (.aload_n 0, 1) := by decide +kernel
theorem dX11_on_1 : decode cX11_on 1 = .ok (.invokevirtual 108, 3) := by decide +kernel
theorem dX11_on_4 : decode cX11_on 4 = .ok (.istore_n 1, 1) := by decide +kernel
theorem dX11_on_5 : decode cX11_on 5 = .ok (.aload_n 0, 1) := by decide +kernel
theorem dX11_on_6 : decode cX11_on 6 = .ok (.getfield 43, 3) := by decide +kernel
theorem dX11_on_9 : decode cX11_on 9 = .ok (.aload_n 0, 1) := by decide +kernel
theorem dX11_on_10 : decode cX11_on 10 = .ok (.getfield 39, 3) := by decide +kernel
theorem dX11_on_13 : decode cX11_on 13 = .ok (.invokevirtual 247, 3) := by decide +kernel
theorem dX11_on_16 : decode cX11_on 16 = .ok (.aload_n 0, 1) := by decide +kernel
theorem dX11_on_17 : decode cX11_on 17 = .ok (.getfield 77, 3) := by decide +kernel
theorem dX11_on_20 : decode cX11_on 20 = .ok (.aload_n 0, 1) := by decide +kernel
theorem dX11_on_21 : decode cX11_on 21 = .ok (.getfield 9, 3) := by decide +kernel
theorem dX11_on_24 : decode cX11_on 24 = .ok (.iload_n 1, 1) := by decide +kernel
theorem dX11_on_25 : decode cX11_on 25 = .ok (.aload_n 0, 1) := by decide +kernel
theorem dX11_on_26 : decode cX11_on 26 = .ok (.getfield 43, 3) := by decide +kernel
theorem dX11_on_29 : decode cX11_on 29 = .ok (.invokevirtual 360, 3) := by decide +kernel
theorem dX11_on_32 : decode cX11_on 32 = .ok (.ifCond .ne 11, 3) := by decide +kernel
theorem dX11_on_35 : decode cX11_on 35 = .ok (.aload_n 0, 1) := by decide +kernel
theorem dX11_on_36 : decode cX11_on 36 = .ok (.iconst 5, 1) := by decide +kernel
theorem dX11_on_37 : decode cX11_on 37 = .ok (.invokevirtual 100, 3) := by decide +kernel
theorem dX11_on_40 : decode cX11_on 40 = .ok (.pop, 1) := by decide +kernel
theorem dX11_on_41 : decode cX11_on 41 = .ok (.iconst 0, 1) := by decide +kernel
theorem dX11_on_42 : decode cX11_on 42 = .ok (.ireturn, 1) := by decide +kernel
theorem dX11_on_43 : decode cX11_on 43 = .ok (.aload_n 0, 1) := by decide +kernel
theorem dX11_on_44 : decode cX11_on 44 = .ok (.getfield 39, 3) := by decide +kernel
theorem dX11_on_47 : decode cX11_on 47 = .ok (.aload_n 0, 1) := by decide +kernel
theorem dX11_on_48 : decode cX11_on 48 = .ok (.getfield 43, 3) := by decide +kernel
theorem dX11_on_51 : decode cX11_on 51 = .ok (.invokevirtual 247, 3) := by decide +kernel
theorem dX11_on_54 : decode cX11_on 54 = .ok (.aload_n 0, 1) := by decide +kernel
theorem dX11_on_55 : decode cX11_on 55 = .ok (.invokevirtual 127, 3) := by decide +kernel
theorem dX11_on_58 : decode cX11_on 58 = .ok (.iconst 1, 1) := by decide +kernel
theorem dX11_on_59 : decode cX11_on 59 = .ok (.ireturn, 1) := by decide +kernel
theorem dX11_status_0 : decode cX11_status 0 = .ok (.iload_n 1, 1) := by decide +kernel
theorem dX11_status_1 : decode cX11_status 1 = .ok (.ifCond .lt 8, 3) := by decide +kernel
theorem dX11_status_4 : decode cX11_status 4 = .ok (.iload_n 1, 1) := by decide +kernel
theorem dX11_status_5 : decode cX11_status 5 = .ok (.iconst 5, 1) := by decide +kernel
theorem dX11_status_6 : decode cX11_status 6 = .ok (.if_icmp .le 7, 3) := by decide +kernel
theorem dX11_status_9 : decode cX11_status 9 = .ok (.iconst (-1), 1) := by decide +kernel
theorem dX11_status_10 : decode cX11_status 10 = .ok (.goto 9, 3) := by decide +kernel
theorem dX11_status_13 : decode cX11_status 13 = .ok (.aload_n 0, 1) := by decide +kernel
theorem dX11_status_14 : decode cX11_status 14 = .ok (.getfield 90, 3) := by decide +kernel
theorem dX11_status_17 : decode cX11_status 17 = .ok (.iload_n 1, 1) := by decide +kernel
theorem dX11_status_18 : decode cX11_status 18 = .ok (.iaload, 1) := by decide +kernel
theorem dX11_status_19 : decode cX11_status 19 = .ok (.ireturn, 1) := by decide +kernel
theorem dJ0_charAt_5068e_0 : decode cJ0_charAt_5068e 0 = .ok (.aload_n 0, 1) := by decide +kernel
theorem dJ0_charAt_5068e_1 : decode cJ0_charAt_5068e 1 = .ok (.invokevirtual 492, 3) := by decide +kernel
theorem dJ0_charAt_5068e_4 : decode cJ0_charAt_5068e 4 = .ok (.ifCond .eq 12, 3) := by decide +kernel
theorem dJ0_charAt_5068e_7 : decode cJ0_charAt_5068e 7 = .ok (.aload_n 0, 1) := by decide +kernel
theorem dJ0_charAt_5068e_8 : decode cJ0_charAt_5068e 8 = .ok (.getfield 9, 3) := by decide +kernel
theorem dJ0_charAt_5068e_11 : decode cJ0_charAt_5068e 11 = .ok (.iload_n 1, 1) := by decide +kernel
theorem dJ0_charAt_5068e_12 : decode cJ0_charAt_5068e 12 = .ok (.invokestatic 495, 3) := by decide +kernel
theorem dJ0_charAt_5068e_15 : decode cJ0_charAt_5068e 15 = .ok (.ireturn, 1) := by decide +kernel
theorem dJ0_charAt_5068e_16 : decode cJ0_charAt_5068e 16 = .ok (.aload_n 0, 1) := by decide +kernel
theorem dJ0_charAt_5068e_17 : decode cJ0_charAt_5068e 17 = .ok (.getfield 9, 3) := by decide +kernel
theorem dJ0_charAt_5068e_20 : decode cJ0_charAt_5068e 20 = .ok (.iload_n 1, 1) := by decide +kernel
theorem dJ0_charAt_5068e_21 : decode cJ0_charAt_5068e 21 = .ok (.invokestatic 498, 3) := by decide +kernel
theorem dJ0_charAt_5068e_24 : decode cJ0_charAt_5068e 24 = .ok (.ireturn, 1) := by decide +kernel
theorem dJ0_isLatin1_aae02_0 : decode cJ0_isLatin1_aae02 0 = .ok (.getstatic 38, 3) := by decide +kernel
theorem dJ0_isLatin1_aae02_3 : decode cJ0_isLatin1_aae02 3 = .ok (.ifCond .eq 14, 3) := by decide +kernel
theorem dJ0_isLatin1_aae02_6 : decode cJ0_isLatin1_aae02 6 = .ok (.aload_n 0, 1) := by decide +kernel
theorem dJ0_isLatin1_aae02_7 : decode cJ0_isLatin1_aae02 7 = .ok (.getfield 15, 3) := by decide +kernel
theorem dJ0_isLatin1_aae02_10 : decode cJ0_isLatin1_aae02 10 = .ok (.ifCond .ne 7, 3) := by decide +kernel
theorem dJ0_isLatin1_aae02_13 : decode cJ0_isLatin1_aae02 13 = .ok (.iconst 1, 1) := by decide +kernel
theorem dJ0_isLatin1_aae02_14 : decode cJ0_isLatin1_aae02 14 = .ok (.goto 4, 3) := by decide +kernel
theorem dJ0_isLatin1_aae02_17 : decode cJ0_isLatin1_aae02 17 = .ok (.iconst 0, 1) := by decide +kernel
theorem dJ0_isLatin1_aae02_18 : decode cJ0_isLatin1_aae02 18 = .ok (.ireturn, 1) := by decide +kernel
theorem dJ0_checkIndex_df160_0 : decode cJ0_checkIndex_df160 0 = .ok (.iload_n 0, 1) := by decide +kernel
theorem dJ0_checkIndex_df160_1 : decode cJ0_checkIndex_df160 1 = .ok (.iload_n 1, 1) := by decide +kernel
theorem dJ0_checkIndex_df160_2 : decode cJ0_checkIndex_df160 2 = .ok (.getstatic 1053, 3) := by decide +kernel
theorem dJ0_checkIndex_df160_5 : decode cJ0_checkIndex_df160 5 = .ok (.invokestatic 1059, 3) := by decide +kernel
theorem dJ0_checkIndex_df160_8 : decode cJ0_checkIndex_df160 8 = .ok (.pop, 1) := by decide +kernel
theorem dJ0_checkIndex_df160_9 : decode cJ0_checkIndex_df160 9 = .ok (.return_, 1) := by decide +kernel
theorem dJ1_charAt_3b067_0 : decode cJ1_charAt_3b067 0 = .ok (.iload_n 1, 1) := by decide +kernel
theorem dJ1_charAt_3b067_1 : decode cJ1_charAt_3b067 1 = .ok (.aload_n 0, 1) := by decide +kernel
theorem dJ1_charAt_3b067_2 : decode cJ1_charAt_3b067 2 = .ok (.arraylength, 1) := by decide +kernel
theorem dJ1_charAt_3b067_3 : decode cJ1_charAt_3b067 3 = .ok (.invokestatic 9, 3) := by decide +kernel
theorem dJ1_charAt_3b067_6 : decode cJ1_charAt_3b067 6 = .ok (.aload_n 0, 1) := by decide +kernel
theorem dJ1_charAt_3b067_7 : decode cJ1_charAt_3b067 7 = .ok (.iload_n 1, 1) := by decide +kernel
theorem dJ1_charAt_3b067_8 : decode cJ1_charAt_3b067 8 = .ok (.baload, 1) := by decide +kernel
theorem dJ1_charAt_3b067_9 : decode cJ1_charAt_3b067 9 = .ok (.sipush 255, 3) := by decide +kernel
theorem dJ1_charAt_3b067_12 : decode cJ1_charAt_3b067 12 = .ok (.iand, 1) := by decide +kernel
theorem dJ1_charAt_3b067_13 : decode cJ1_charAt_3b067 13 = .ok (.i2c, 1) := by decide +kernel
theorem dJ1_charAt_3b067_14 : decode cJ1_charAt_3b067 14 = .ok (.ireturn, 1) := by decide +kernel
theorem dJ2_getChar_3b067_0 : decode cJ2_getChar_3b067 0 = .ok (.getstatic 44, 3) := by decide +kernel
theorem dJ2_getChar_3b067_3 : decode cJ2_getChar_3b067 3 = .ok (.ifCond .ne 25, 3) := by decide +kernel
theorem dJ2_getChar_3b067_6 : decode cJ2_getChar_3b067 6 = .ok (.iload_n 1, 1) := by decide +kernel
theorem dJ2_getChar_3b067_7 : decode cJ2_getChar_3b067 7 = .ok (.ifCond .lt 11, 3) := by decide +kernel
theorem dJ2_getChar_3b067_10 : decode cJ2_getChar_3b067 10 = .ok (.iload_n 1, 1) := by decide +kernel
theorem dJ2_getChar_3b067_11 : decode cJ2_getChar_3b067 11 = .ok (.aload_n 0, 1) := by decide +kernel
theorem dJ2_getChar_3b067_12 : decode cJ2_getChar_3b067 12 = .ok (.invokestatic 48, 3) := by decide +kernel
theorem dJ2_getChar_3b067_15 : decode cJ2_getChar_3b067 15 = .ok (.if_icmp .lt 13, 3) := by decide +kernel
theorem dJ2_getChar_3b067_18 : decode cJ2_getChar_3b067 18 = .ok (.new 52, 3) := by decide +kernel
theorem dJ2_getChar_3b067_21 : decode cJ2_getChar_3b067 21 = .ok (.dup, 1) := by decide +kernel
theorem dJ2_getChar_3b067_22 : decode cJ2_getChar_3b067 22 = .ok (.ldc 54, 2) := by decide +kernel
theorem dJ2_getChar_3b067_24 : decode cJ2_getChar_3b067 24 = .ok (.invokespecial 56, 3) := by decide +kernel
theorem dJ2_getChar_3b067_27 : decode cJ2_getChar_3b067 27 = .ok (.athrow, 1) := by decide +kernel
theorem dJ2_getChar_3b067_28 : decode cJ2_getChar_3b067 28 = .ok (.iload_n 1, 1) := by decide +kernel
theorem dJ2_getChar_3b067_29 : decode cJ2_getChar_3b067 29 = .ok (.iconst 1, 1) := by decide +kernel
theorem dJ2_getChar_3b067_30 : decode cJ2_getChar_3b067 30 = .ok (.ishl, 1) := by decide +kernel
theorem dJ2_getChar_3b067_31 : decode cJ2_getChar_3b067 31 = .ok (.istore_n 1, 1) := by decide +kernel
theorem dJ2_getChar_3b067_32 : decode cJ2_getChar_3b067 32 = .ok (.aload_n 0, 1) := by decide +kernel
theorem dJ2_getChar_3b067_33 : decode cJ2_getChar_3b067 33 = .ok (.iload_n 1, 1) := by decide +kernel
theorem dJ2_getChar_3b067_34 : decode cJ2_getChar_3b067 34 = .ok (.iinc 1 1, 3) := by decide +kernel
theorem dJ2_getChar_3b067_37 : decode cJ2_getChar_3b067 37 = .ok (.baload, 1) := by decide +kernel
theorem dJ2_getChar_3b067_38 : decode cJ2_getChar_3b067 38 = .ok (.sipush 255, 3) := by decide +kernel
theorem dJ2_getChar_3b067_41 : decode cJ2_getChar_3b067 41 = .ok (.iand, 1) := by decide +kernel
theorem dJ2_getChar_3b067_42 : decode cJ2_getChar_3b067 42 = .ok (.getstatic 59, 3) := by decide +kernel
theorem dJ2_getChar_3b067_45 : decode cJ2_getChar_3b067 45 = .ok (.ishl, 1) := by decide +kernel
theorem dJ2_getChar_3b067_46 : decode cJ2_getChar_3b067 46 = .ok (.aload_n 0, 1) := by decide +kernel
theorem dJ2_getChar_3b067_47 : decode cJ2_getChar_3b067 47 = .ok (.iload_n 1, 1) := by decide +kernel
theorem dJ2_getChar_3b067_48 : decode cJ2_getChar_3b067 48 = .ok (.baload, 1) := by decide +kernel
theorem dJ2_getChar_3b067_49 : decode cJ2_getChar_3b067 49 = .ok (.sipush 255, 3) := by decide +kernel
theorem dJ2_getChar_3b067_52 : decode cJ2_getChar_3b067 52 = .ok (.iand, 1) := by decide +kernel
theorem dJ2_getChar_3b067_53 : decode cJ2_getChar_3b067 53 = .ok (.getstatic 63, 3) := by decide +kernel
theorem dJ2_getChar_3b067_56 : decode cJ2_getChar_3b067 56 = .ok (.ishl, 1) := by decide +kernel
theorem dJ2_getChar_3b067_57 : decode cJ2_getChar_3b067 57 = .ok (.ior, 1) := by decide +kernel
theorem dJ2_getChar_3b067_58 : decode cJ2_getChar_3b067 58 = .ok (.i2c, 1) := by decide +kernel
theorem dJ2_getChar_3b067_59 : decode cJ2_getChar_3b067 59 = .ok (.ireturn, 1) := by decide +kernel
theorem dJ2_length_9d52b_0 : decode cJ2_length_9d52b 0 = .ok (.aload_n 0, 1) := by decide +kernel
theorem dJ2_length_9d52b_1 : decode cJ2_length_9d52b 1 = .ok (.arraylength, 1) := by decide +kernel
theorem dJ2_length_9d52b_2 : decode cJ2_length_9d52b 2 = .ok (.iconst 1, 1) := by decide +kernel
theorem dJ2_length_9d52b_3 : decode cJ2_length_9d52b 3 = .ok (.ishr, 1) := by decide +kernel
theorem dJ2_length_9d52b_4 : decode cJ2_length_9d52b 4 = .ok (.ireturn, 1) := by decide +kernel
theorem dJ2_charAt_3b067_0 : decode cJ2_charAt_3b067 0 = .ok (.iload_n 1, 1) := by decide +kernel
theorem dJ2_charAt_3b067_1 : decode cJ2_charAt_3b067 1 = .ok (.aload_n 0, 1) := by decide +kernel
theorem dJ2_charAt_3b067_2 : decode cJ2_charAt_3b067 2 = .ok (.invokestatic 67, 3) := by decide +kernel
theorem dJ2_charAt_3b067_5 : decode cJ2_charAt_3b067 5 = .ok (.aload_n 0, 1) := by decide +kernel
theorem dJ2_charAt_3b067_6 : decode cJ2_charAt_3b067 6 = .ok (.iload_n 1, 1) := by decide +kernel
theorem dJ2_charAt_3b067_7 : decode cJ2_charAt_3b067 7 = .ok (.invokestatic 71, 3) := by decide +kernel
theorem dJ2_charAt_3b067_10 : decode cJ2_charAt_3b067 10 = .ok (.ireturn, 1) := by decide +kernel
theorem dJ2_checkIndex_2214a_0 : decode cJ2_checkIndex_2214a 0 = .ok (.iload_n 0, 1) := by decide +kernel
theorem dJ2_checkIndex_2214a_1 : decode cJ2_checkIndex_2214a 1 = .ok (.aload_n 1, 1) := by decide +kernel
theorem dJ2_checkIndex_2214a_2 : decode cJ2_checkIndex_2214a 2 = .ok (.invokestatic 48, 3) := by decide +kernel
theorem dJ2_checkIndex_2214a_5 : decode cJ2_checkIndex_2214a 5 = .ok (.invokestatic 414, 3) := by decide +kernel
theorem dJ2_checkIndex_2214a_8 : decode cJ2_checkIndex_2214a 8 = .ok (.return_, 1) := by decide +kernel
theorem dJ3_checkIndex_8e157_0 : decode cJ3_checkIndex_8e157 0 = .ok (.iload_n 0, 1) := by decide +kernel
theorem dJ3_checkIndex_8e157_1 : decode cJ3_checkIndex_8e157 1 = .ok (.ifCond .lt 8, 3) := by decide +kernel
theorem dJ3_checkIndex_8e157_4 : decode cJ3_checkIndex_8e157 4 = .ok (.iload_n 0, 1) := by decide +kernel
theorem dJ3_checkIndex_8e157_5 : decode cJ3_checkIndex_8e157 5 = .ok (.iload_n 1, 1) := by decide +kernel
theorem dJ3_checkIndex_8e157_6 : decode cJ3_checkIndex_8e157 6 = .ok (.if_icmp .lt 10, 3) := by decide +kernel
theorem dJ3_checkIndex_8e157_9 : decode cJ3_checkIndex_8e157 9 = .ok (.aload_n 2, 1) := by decide +kernel
theorem dJ3_checkIndex_8e157_10 : decode cJ3_checkIndex_8e157 10 = .ok (.iload_n 0, 1) := by decide +kernel
theorem dJ3_checkIndex_8e157_11 : decode cJ3_checkIndex_8e157 11 = .ok (.iload_n 1, 1) := by decide +kernel
theorem dJ3_checkIndex_8e157_12 : decode cJ3_checkIndex_8e157 12 = .ok (.invokestatic 95, 3) := by decide +kernel
theorem dJ3_checkIndex_8e157_15 : decode cJ3_checkIndex_8e157 15 = .ok (.athrow, 1) := by decide +kernel
theorem dJ3_checkIndex_8e157_16 : decode cJ3_checkIndex_8e157 16 = .ok (.iload_n 0, 1) := by decide +kernel
theorem dJ3_checkIndex_8e157_17 : decode cJ3_checkIndex_8e157 17 = .ok (.ireturn, 1) := by decide +kernel
theorem dJ6_bitCount_0f7a4_0 : decode cJ6_bitCount_0f7a4 0 = .ok (.iload_n 0, 1) := by decide +kernel
theorem dJ6_bitCount_0f7a4_1 : decode cJ6_bitCount_0f7a4 1 = .ok (.iload_n 0, 1) := by decide +kernel
theorem dJ6_bitCount_0f7a4_2 : decode cJ6_bitCount_0f7a4 2 = .ok (.iconst 1, 1) := by decide +kernel
theorem dJ6_bitCount_0f7a4_3 : decode cJ6_bitCount_0f7a4 3 = .ok (.iushr, 1) := by decide +kernel
theorem dJ6_bitCount_0f7a4_4 : decode cJ6_bitCount_0f7a4 4 = .ok (.ldc_w 265, 3) := by decide +kernel
theorem dJ6_bitCount_0f7a4_7 : decode cJ6_bitCount_0f7a4 7 = .ok (.iand, 1) := by decide +kernel
theorem dJ6_bitCount_0f7a4_8 : decode cJ6_bitCount_0f7a4 8 = .ok (.isub, 1) := by decide +kernel
theorem dJ6_bitCount_0f7a4_9 : decode cJ6_bitCount_0f7a4 9 = .ok (.istore_n 0, 1) := by decide +kernel
theorem dJ6_bitCount_0f7a4_10 : decode cJ6_bitCount_0f7a4 10 = .ok (.iload_n 0, 1) := by decide +kernel
theorem dJ6_bitCount_0f7a4_11 : decode cJ6_bitCount_0f7a4 11 = .ok (.ldc_w 266, 3) := by decide +kernel
theorem dJ6_bitCount_0f7a4_14 : decode cJ6_bitCount_0f7a4 14 = .ok (.iand, 1) := by decide +kernel
theorem dJ6_bitCount_0f7a4_15 : decode cJ6_bitCount_0f7a4 15 = .ok (.iload_n 0, 1) := by decide +kernel
theorem dJ6_bitCount_0f7a4_16 : decode cJ6_bitCount_0f7a4 16 = .ok (.iconst 2, 1) := by decide +kernel
theorem dJ6_bitCount_0f7a4_17 : decode cJ6_bitCount_0f7a4 17 = .ok (.iushr, 1) := by decide +kernel
theorem dJ6_bitCount_0f7a4_18 : decode cJ6_bitCount_0f7a4 18 = .ok (.ldc_w 266, 3) := by decide +kernel
theorem dJ6_bitCount_0f7a4_21 : decode cJ6_bitCount_0f7a4 21 = .ok (.iand, 1) := by decide +kernel
theorem dJ6_bitCount_0f7a4_22 : decode cJ6_bitCount_0f7a4 22 = .ok (.iadd, 1) := by decide +kernel
theorem dJ6_bitCount_0f7a4_23 : decode cJ6_bitCount_0f7a4 23 = .ok (.istore_n 0, 1) := by decide +kernel
theorem dJ6_bitCount_0f7a4_24 : decode cJ6_bitCount_0f7a4 24 = .ok (.iload_n 0, 1) := by decide +kernel
theorem dJ6_bitCount_0f7a4_25 : decode cJ6_bitCount_0f7a4 25 = .ok (.iload_n 0, 1) := by decide +kernel
theorem dJ6_bitCount_0f7a4_26 : decode cJ6_bitCount_0f7a4 26 = .ok (.iconst 4, 1) := by decide +kernel
theorem dJ6_bitCount_0f7a4_27 : decode cJ6_bitCount_0f7a4 27 = .ok (.iushr, 1) := by decide +kernel
theorem dJ6_bitCount_0f7a4_28 : decode cJ6_bitCount_0f7a4 28 = .ok (.iadd, 1) := by decide +kernel
theorem dJ6_bitCount_0f7a4_29 : decode cJ6_bitCount_0f7a4 29 = .ok (.ldc_w 267, 3) := by decide +kernel
theorem dJ6_bitCount_0f7a4_32 : decode cJ6_bitCount_0f7a4 32 = .ok (.iand, 1) := by decide +kernel
theorem dJ6_bitCount_0f7a4_33 : decode cJ6_bitCount_0f7a4 33 = .ok (.istore_n 0, 1) := by decide +kernel
theorem dJ6_bitCount_0f7a4_34 : decode cJ6_bitCount_0f7a4 34 = .ok (.iload_n 0, 1) := by decide +kernel
theorem dJ6_bitCount_0f7a4_35 : decode cJ6_bitCount_0f7a4 35 = .ok (.iload_n 0, 1) := by decide +kernel
theorem dJ6_bitCount_0f7a4_36 : decode cJ6_bitCount_0f7a4 36 = .ok (.bipush 8, 2) := by decide +kernel
theorem dJ6_bitCount_0f7a4_38 : decode cJ6_bitCount_0f7a4 38 = .ok (.iushr, 1) := by decide +kernel
theorem dJ6_bitCount_0f7a4_39 : decode cJ6_bitCount_0f7a4 39 = .ok (.iadd, 1) := by decide +kernel
theorem dJ6_bitCount_0f7a4_40 : decode cJ6_bitCount_0f7a4 40 = .ok (.istore_n 0, 1) := by decide +kernel
theorem dJ6_bitCount_0f7a4_41 : decode cJ6_bitCount_0f7a4 41 = .ok (.iload_n 0, 1) := by decide +kernel
theorem dJ6_bitCount_0f7a4_42 : decode cJ6_bitCount_0f7a4 42 = .ok (.iload_n 0, 1) := by decide +kernel
theorem dJ6_bitCount_0f7a4_43 : decode cJ6_bitCount_0f7a4 43 = .ok (.bipush 16, 2) := by decide +kernel
theorem dJ6_bitCount_0f7a4_45 : decode cJ6_bitCount_0f7a4 45 = .ok (.iushr, 1) := by decide +kernel
theorem dJ6_bitCount_0f7a4_46 : decode cJ6_bitCount_0f7a4 46 = .ok (.iadd, 1) := by decide +kernel
theorem dJ6_bitCount_0f7a4_47 : decode cJ6_bitCount_0f7a4 47 = .ok (.istore_n 0, 1) := by decide +kernel
theorem dJ6_bitCount_0f7a4_48 : decode cJ6_bitCount_0f7a4 48 = .ok (.iload_n 0, 1) := by decide +kernel
theorem dJ6_bitCount_0f7a4_49 : decode cJ6_bitCount_0f7a4 49 = .ok (.bipush 63, 2) := by decide +kernel
theorem dJ6_bitCount_0f7a4_51 : decode cJ6_bitCount_0f7a4 51 = .ok (.iand, 1) := by decide +kernel
theorem dJ6_bitCount_0f7a4_52 : decode cJ6_bitCount_0f7a4 52 = .ok (.ireturn, 1) := by decide +kernel
theorem dJ7_fill_53178_0 : decode cJ7_fill_53178 0 = .ok (.iconst 0, 1) := by decide +kernel
theorem dJ7_fill_53178_1 : decode cJ7_fill_53178 1 = .ok (.istore_n 2, 1) := by decide +kernel
theorem dJ7_fill_53178_2 : decode cJ7_fill_53178 2 = .ok (.aload_n 0, 1) := by decide +kernel
theorem dJ7_fill_53178_3 : decode cJ7_fill_53178 3 = .ok (.arraylength, 1) := by decide +kernel
theorem dJ7_fill_53178_4 : decode cJ7_fill_53178 4 = .ok (.istore_n 3, 1) := by decide +kernel
theorem dJ7_fill_53178_5 : decode cJ7_fill_53178 5 = .ok (.iload_n 2, 1) := by decide +kernel
theorem dJ7_fill_53178_6 : decode cJ7_fill_53178 6 = .ok (.iload_n 3, 1) := by decide +kernel
theorem dJ7_fill_53178_7 : decode cJ7_fill_53178 7 = .ok (.if_icmp .ge 13, 3) := by decide +kernel
theorem dJ7_fill_53178_10 : decode cJ7_fill_53178 10 = .ok (.aload_n 0, 1) := by decide +kernel
theorem dJ7_fill_53178_11 : decode cJ7_fill_53178 11 = .ok (.iload_n 2, 1) := by decide +kernel
theorem dJ7_fill_53178_12 : decode cJ7_fill_53178 12 = .ok (.iload_n 1, 1) := by decide +kernel
theorem dJ7_fill_53178_13 : decode cJ7_fill_53178 13 = .ok (.iastore, 1) := by decide +kernel
theorem dJ7_fill_53178_14 : decode cJ7_fill_53178 14 = .ok (.iinc 2 1, 3) := by decide +kernel
theorem dJ7_fill_53178_17 : decode cJ7_fill_53178 17 = .ok (.goto (-12), 3) := by decide +kernel
theorem dJ7_fill_53178_20 : decode cJ7_fill_53178 20 = .ok (.return_, 1) := by decide +kernel
theorem dJ9_floorDiv_f86c9_0 : decode cJ9_floorDiv_f86c9 0 = .ok (.lload_n 0, 1) := by decide +kernel
theorem dJ9_floorDiv_f86c9_1 : decode cJ9_floorDiv_f86c9 1 = .ok (.lload_n 2, 1) := by decide +kernel
theorem dJ9_floorDiv_f86c9_2 : decode cJ9_floorDiv_f86c9 2 = .ok (.ldiv, 1) := by decide +kernel
theorem dJ9_floorDiv_f86c9_3 : decode cJ9_floorDiv_f86c9 3 = .ok (.lstore 4, 2) := by decide +kernel
theorem dJ9_floorDiv_f86c9_5 : decode cJ9_floorDiv_f86c9 5 = .ok (.lload_n 0, 1) := by decide +kernel
theorem dJ9_floorDiv_f86c9_6 : decode cJ9_floorDiv_f86c9 6 = .ok (.lload_n 2, 1) := by decide +kernel
theorem dJ9_floorDiv_f86c9_7 : decode cJ9_floorDiv_f86c9 7 = .ok (.lxor, 1) := by decide +kernel
theorem dJ9_floorDiv_f86c9_8 : decode cJ9_floorDiv_f86c9 8 = .ok (.lconst 0, 1) := by decide +kernel
theorem dJ9_floorDiv_f86c9_9 : decode cJ9_floorDiv_f86c9 9 = .ok (.lcmp, 1) := by decide +kernel
theorem dJ9_floorDiv_f86c9_10 : decode cJ9_floorDiv_f86c9 10 = .ok (.ifCond .ge 17, 3) := by decide +kernel
theorem dJ9_floorDiv_f86c9_13 : decode cJ9_floorDiv_f86c9 13 = .ok (.lload 4, 2) := by decide +kernel
theorem dJ9_floorDiv_f86c9_15 : decode cJ9_floorDiv_f86c9 15 = .ok (.lload_n 2, 1) := by decide +kernel
theorem dJ9_floorDiv_f86c9_16 : decode cJ9_floorDiv_f86c9 16 = .ok (.lmul, 1) := by decide +kernel
theorem dJ9_floorDiv_f86c9_17 : decode cJ9_floorDiv_f86c9 17 = .ok (.lload_n 0, 1) := by decide +kernel
theorem dJ9_floorDiv_f86c9_18 : decode cJ9_floorDiv_f86c9 18 = .ok (.lcmp, 1) := by decide +kernel
theorem dJ9_floorDiv_f86c9_19 : decode cJ9_floorDiv_f86c9 19 = .ok (.ifCond .eq 8, 3) := by decide +kernel
theorem dJ9_floorDiv_f86c9_22 : decode cJ9_floorDiv_f86c9 22 = .ok (.lload 4, 2) := by decide +kernel
theorem dJ9_floorDiv_f86c9_24 : decode cJ9_floorDiv_f86c9 24 = .ok (.lconst 1, 1) := by decide +kernel
theorem dJ9_floorDiv_f86c9_25 : decode cJ9_floorDiv_f86c9 25 = .ok (.lsub, 1) := by decide +kernel
theorem dJ9_floorDiv_f86c9_26 : decode cJ9_floorDiv_f86c9 26 = .ok (.lreturn, 1) := by decide +kernel
theorem dJ9_floorDiv_f86c9_27 : decode cJ9_floorDiv_f86c9 27 = .ok (.lload 4, 2) := by decide +kernel
theorem dJ9_floorDiv_f86c9_29 : decode cJ9_floorDiv_f86c9 29 = .ok (.lreturn, 1) := by decide +kernel
theorem dJ9_floorMod_f86c9_0 : decode cJ9_floorMod_f86c9 0 = .ok (.lload_n 0, 1) := by decide +kernel
theorem dJ9_floorMod_f86c9_1 : decode cJ9_floorMod_f86c9 1 = .ok (.lload_n 2, 1) := by decide +kernel
theorem dJ9_floorMod_f86c9_2 : decode cJ9_floorMod_f86c9 2 = .ok (.lrem, 1) := by decide +kernel
theorem dJ9_floorMod_f86c9_3 : decode cJ9_floorMod_f86c9 3 = .ok (.lstore 4, 2) := by decide +kernel
theorem dJ9_floorMod_f86c9_5 : decode cJ9_floorMod_f86c9 5 = .ok (.lload_n 0, 1) := by decide +kernel
theorem dJ9_floorMod_f86c9_6 : decode cJ9_floorMod_f86c9 6 = .ok (.lload_n 2, 1) := by decide +kernel
theorem dJ9_floorMod_f86c9_7 : decode cJ9_floorMod_f86c9 7 = .ok (.lxor, 1) := by decide +kernel
theorem dJ9_floorMod_f86c9_8 : decode cJ9_floorMod_f86c9 8 = .ok (.lconst 0, 1) := by decide +kernel
theorem dJ9_floorMod_f86c9_9 : decode cJ9_floorMod_f86c9 9 = .ok (.lcmp, 1) := by decide +kernel
theorem dJ9_floorMod_f86c9_10 : decode cJ9_floorMod_f86c9 10 = .ok (.ifCond .ge 15, 3) := by decide +kernel
theorem dJ9_floorMod_f86c9_13 : decode cJ9_floorMod_f86c9 13 = .ok (.lload 4, 2) := by decide +kernel
theorem dJ9_floorMod_f86c9_15 : decode cJ9_floorMod_f86c9 15 = .ok (.lconst 0, 1) := by decide +kernel
theorem dJ9_floorMod_f86c9_16 : decode cJ9_floorMod_f86c9 16 = .ok (.lcmp, 1) := by decide +kernel
theorem dJ9_floorMod_f86c9_17 : decode cJ9_floorMod_f86c9 17 = .ok (.ifCond .eq 8, 3) := by decide +kernel
theorem dJ9_floorMod_f86c9_20 : decode cJ9_floorMod_f86c9 20 = .ok (.lload 4, 2) := by decide +kernel
theorem dJ9_floorMod_f86c9_22 : decode cJ9_floorMod_f86c9 22 = .ok (.lload_n 2, 1) := by decide +kernel
theorem dJ9_floorMod_f86c9_23 : decode cJ9_floorMod_f86c9 23 = .ok (.ladd, 1) := by decide +kernel
theorem dJ9_floorMod_f86c9_24 : decode cJ9_floorMod_f86c9 24 = .ok (.lreturn, 1) := by decide +kernel
theorem dJ9_floorMod_f86c9_25 : decode cJ9_floorMod_f86c9 25 = .ok (.lload 4, 2) := by decide +kernel
theorem dJ9_floorMod_f86c9_27 : decode cJ9_floorMod_f86c9 27 = .ok (.lreturn, 1) := by decide +kernel
theorem dJ9_abs_0f7a4_0 : decode cJ9_abs_0f7a4 0 = .ok (.iload_n 0, 1) := by decide +kernel
theorem dJ9_abs_0f7a4_1 : decode cJ9_abs_0f7a4 1 = .ok (.ifCond .ge 8, 3) := by decide +kernel
theorem dJ9_abs_0f7a4_4 : decode cJ9_abs_0f7a4 4 = .ok (.iload_n 0, 1) := by decide +kernel
theorem dJ9_abs_0f7a4_5 : decode cJ9_abs_0f7a4 5 = .ok (.ineg, 1) := by decide +kernel
theorem dJ9_abs_0f7a4_6 : decode cJ9_abs_0f7a4 6 = .ok (.goto 4, 3) := by decide +kernel
theorem dJ9_abs_0f7a4_9 : decode cJ9_abs_0f7a4 9 = .ok (.iload_n 0, 1) := by decide +kernel
theorem dJ9_abs_0f7a4_10 : decode cJ9_abs_0f7a4 10 = .ok (.ireturn, 1) := by decide +kernel
theorem dJ9_max_7cf53_0 : decode cJ9_max_7cf53 0 = .ok (.iload_n 0, 1) := by decide +kernel
theorem dJ9_max_7cf53_1 : decode cJ9_max_7cf53 1 = .ok (.iload_n 1, 1) := by decide +kernel
theorem dJ9_max_7cf53_2 : decode cJ9_max_7cf53 2 = .ok (.if_icmp .lt 7, 3) := by decide +kernel
theorem dJ9_max_7cf53_5 : decode cJ9_max_7cf53 5 = .ok (.iload_n 0, 1) := by decide +kernel
theorem dJ9_max_7cf53_6 : decode cJ9_max_7cf53 6 = .ok (.goto 4, 3) := by decide +kernel
theorem dJ9_max_7cf53_9 : decode cJ9_max_7cf53 9 = .ok (.iload_n 1, 1) := by decide +kernel
theorem dJ9_max_7cf53_10 : decode cJ9_max_7cf53 10 = .ok (.ireturn, 1) := by decide +kernel
theorem dJ9_max_f86c9_0 : decode cJ9_max_f86c9 0 = .ok (.lload_n 0, 1) := by decide +kernel
theorem dJ9_max_f86c9_1 : decode cJ9_max_f86c9 1 = .ok (.lload_n 2, 1) := by decide +kernel
theorem dJ9_max_f86c9_2 : decode cJ9_max_f86c9 2 = .ok (.lcmp, 1) := by decide +kernel
theorem dJ9_max_f86c9_3 : decode cJ9_max_f86c9 3 = .ok (.ifCond .lt 7, 3) := by decide +kernel
theorem dJ9_max_f86c9_6 : decode cJ9_max_f86c9 6 = .ok (.lload_n 0, 1) := by decide +kernel
theorem dJ9_max_f86c9_7 : decode cJ9_max_f86c9 7 = .ok (.goto 4, 3) := by decide +kernel
theorem dJ9_max_f86c9_10 : decode cJ9_max_f86c9 10 = .ok (.lload_n 2, 1) := by decide +kernel
theorem dJ9_max_f86c9_11 : decode cJ9_max_f86c9 11 = .ok (.lreturn, 1) := by decide +kernel
theorem dJ9_min_7cf53_0 : decode cJ9_min_7cf53 0 = .ok (.iload_n 0, 1) := by decide +kernel
theorem dJ9_min_7cf53_1 : decode cJ9_min_7cf53 1 = .ok (.iload_n 1, 1) := by decide +kernel
theorem dJ9_min_7cf53_2 : decode cJ9_min_7cf53 2 = .ok (.if_icmp .gt 7, 3) := by decide +kernel
theorem dJ9_min_7cf53_5 : decode cJ9_min_7cf53 5 = .ok (.iload_n 0, 1) := by decide +kernel
theorem dJ9_min_7cf53_6 : decode cJ9_min_7cf53 6 = .ok (.goto 4, 3) := by decide +kernel
theorem dJ9_min_7cf53_9 : decode cJ9_min_7cf53 9 = .ok (.iload_n 1, 1) := by decide +kernel
theorem dJ9_min_7cf53_10 : decode cJ9_min_7cf53 10 = .ok (.ireturn, 1) := by decide +kernel
theorem dJ9_min_f86c9_0 : decode cJ9_min_f86c9 0 = .ok (.lload_n 0, 1) := by decide +kernel
theorem dJ9_min_f86c9_1 : decode cJ9_min_f86c9 1 = .ok (.lload_n 2, 1) := by decide +kernel
theorem dJ9_min_f86c9_2 : decode cJ9_min_f86c9 2 = .ok (.lcmp, 1) := by decide +kernel
theorem dJ9_min_f86c9_3 : decode cJ9_min_f86c9 3 = .ok (.ifCond .gt 7, 3) := by decide +kernel
theorem dJ9_min_f86c9_6 : decode cJ9_min_f86c9 6 = .ok (.lload_n 0, 1) := by decide +kernel
theorem dJ9_min_f86c9_7 : decode cJ9_min_f86c9 7 = .ok (.goto 4, 3) := by decide +kernel
theorem dJ9_min_f86c9_10 : decode cJ9_min_f86c9 10 = .ok (.lload_n 2, 1) := by decide +kernel
theorem dJ9_min_f86c9_11 : decode cJ9_min_f86c9 11 = .ok (.lreturn, 1) := by decide +kernel
