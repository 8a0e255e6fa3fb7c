theorem dX12_room_44 : decode cX12_room 44 = .ok (.aload_n 0, 1) := by decide +kernel
theorem dX12_room_45 : decode cX12_room 45 = .ok (.iload_n 1, 1) := by decide +kernel
theorem dX12_room_46 : decode cX12_room 46 = .ok (.iload 4, 2) := by decide +kernel
theorem dX12_room_48 : decode cX12_room 48 = .ok (.invokevirtual 440, 3) := by decide +kernel
theorem dX12_room_51 : decode cX12_room 51 = .ok (.goto 4, 3) := by decide +kernel
theorem dX12_room_54 : decode cX12_room 54 = .ok (.iconst 0, 1) := by decide +kernel
theorem dX12_room_55 : decode cX12_room 55 = .ok (.isub, 1) := by decide +kernel
theorem dX12_room_56 : decode cX12_room 56 = .ok (.istore_n 3, 1) := by decide +kernel
theorem dX12_room_57 : decode cX12_room 57 = .ok (.iinc 4 1, 3) := by decide +kernel
theorem dX12_room_60 : decode cX12_room 60 = .ok (.goto (-42), 3) := by decide +kernel
theorem dX12_room_63 : decode cX12_room 63 = .ok (.iload_n 3, 1) := by decide +kernel
theorem dX12_room_64 : decode cX12_room 64 = .ok (.ireturn, 1) := by decide +kernel
theorem dX12_asks_0 : decode cX12_asks 0 = .ok (.aload_n 0, 1) := by decide +kernel
theorem dX12_asks_1 : decode cX12_asks 1 = .ok (.getfield 186, 3) := by decide +kernel
theorem dX12_asks_4 : decode cX12_asks 4 = .ok (.iconst 1, 1) := by decide +kernel
theorem dX12_asks_5 : decode cX12_asks 5 = .ok (.aload_n 0, 1) := by decide +kernel
theorem dX12_asks_6 : decode cX12_asks 6 = .ok (.iload_n 1, 1) := by decide +kernel
theorem dX12_asks_7 : decode cX12_asks 7 = .ok (.iload_n 2, 1) := by decide +kernel
theorem dX12_asks_8 : decode cX12_asks 8 = .ok (.invokevirtual 440, 3) := by decide +kernel
theorem dX12_asks_11 : decode cX12_asks 11 = .ok (.iastore, 1) := by decide +kernel
theorem dX12_asks_12 : decode cX12_asks 12 = .ok (.aload_n 0, 1) := by decide +kernel
theorem dX12_asks_13 : decode cX12_asks 13 = .ok (.getfield 186, 3) := by decide +kernel
theorem dX12_asks_16 : decode cX12_asks 16 = .ok (.iconst 2, 1) := by decide +kernel
theorem dX12_asks_17 : decode cX12_asks 17 = .ok (.aload_n 0, 1) := by decide +kernel
theorem dX12_asks_18 : decode cX12_asks 18 = .ok (.getfield 153, 3) := by decide +kernel
theorem dX12_asks_21 : decode cX12_asks 21 = .ok (.iload_n 1, 1) := by decide +kernel
theorem dX12_asks_22 : decode cX12_asks 22 = .ok (.iaload, 1) := by decide +kernel
theorem dX12_asks_23 : decode cX12_asks 23 = .ok (.iastore, 1) := by decide +kernel
theorem dX12_asks_24 : decode cX12_asks 24 = .ok (.aload_n 0, 1) := by decide +kernel
theorem dX12_asks_25 : decode cX12_asks 25 = .ok (.getfield 186, 3) := by decide +kernel
theorem dX12_asks_28 : decode cX12_asks 28 = .ok (.iconst 3, 1) := by decide +kernel
theorem dX12_asks_29 : decode cX12_asks 29 = .ok (.aload_n 0, 1) := by decide +kernel
theorem dX12_asks_30 : decode cX12_asks 30 = .ok (.iload_n 1, 1) := by decide +kernel
theorem dX12_asks_31 : decode cX12_asks 31 = .ok (.iload_n 3, 1) := by decide +kernel
theorem dX12_asks_32 : decode cX12_asks 32 = .ok (.iload_n 2, 1) := by decide +kernel
theorem dX12_asks_33 : decode cX12_asks 33 = .ok (.invokevirtual 443, 3) := by decide +kernel
theorem dX12_asks_36 : decode cX12_asks 36 = .ok (.iastore, 1) := by decide +kernel
theorem dX12_asks_37 : decode cX12_asks 37 = .ok (.return_, 1) := by decide +kernel
theorem dX12_leaking_0 : decode cX12_leaking 0 = .ok (.aload_n 0, 1) := by decide +kernel
theorem dX12_leaking_1 : decode cX12_leaking 1 = .ok (.iload_n 1, 1) := by decide +kernel
theorem dX12_leaking_2 : decode cX12_leaking 2 = .ok (.iload_n 2, 1) := by decide +kernel
theorem dX12_leaking_3 : decode cX12_leaking 3 = .ok (.invokevirtual 440, 3) := by decide +kernel
theorem dX12_leaking_6 : decode cX12_leaking 6 = .ok (.ifCond .eq 11, 3) := by decide +kernel
theorem dX12_leaking_9 : decode cX12_leaking 9 = .ok (.aload_n 0, 1) := by decide +kernel
theorem dX12_leaking_10 : decode cX12_leaking 10 = .ok (.iconst 0, 1) := by decide +kernel
theorem dX12_leaking_11 : decode cX12_leaking 11 = .ok (.invokevirtual 447, 3) := by decide +kernel
theorem dX12_leaking_14 : decode cX12_leaking 14 = .ok (.ifCond .ne 5, 3) := by decide +kernel
theorem dX12_leaking_17 : decode cX12_leaking 17 = .ok (.iconst 0, 1) := by decide +kernel
theorem dX12_leaking_18 : decode cX12_leaking 18 = .ok (.ireturn, 1) := by decide +kernel
theorem dX12_leaking_19 : decode cX12_leaking 19 = .ok (.aload_n 0, 1) := by decide +kernel
theorem dX12_leaking_20 : decode cX12_leaking 20 = .ok (.iload_n 1, 1) := by decide +kernel
theorem dX12_leaking_21 : decode cX12_leaking 21 = .ok (.iload_n 2, 1) := by decide +kernel
theorem dX12_leaking_22 : decode cX12_leaking 22 = .ok (.aload_n 0, 1) := by decide +kernel
theorem dX12_leaking_23 : decode cX12_leaking 23 = .ok (.iload_n 1, 1) := by decide +kernel
theorem dX12_leaking_24 : decode cX12_leaking 24 = .ok (.iload_n 2, 1) := by decide +kernel
theorem dX12_leaking_25 : decode cX12_leaking 25 = .ok (.invokevirtual 437, 3) := by decide +kernel
theorem dX12_leaking_28 : decode cX12_leaking 28 = .ok (.invokevirtual 450, 3) := by decide +kernel
theorem dX12_leaking_31 : decode cX12_leaking 31 = .ok (.aload_n 0, 1) := by decide +kernel
theorem dX12_leaking_32 : decode cX12_leaking 32 = .ok (.getfield 186, 3) := by decide +kernel
theorem dX12_leaking_35 : decode cX12_leaking 35 = .ok (.iconst 4, 1) := by decide +kernel
theorem dX12_leaking_36 : decode cX12_leaking 36 = .ok (.iload_n 3, 1) := by decide +kernel
theorem dX12_leaking_37 : decode cX12_leaking 37 = .ok (.ifCond .eq 7, 3) := by decide +kernel
theorem dX12_leaking_40 : decode cX12_leaking 40 = .ok (.iconst 1, 1) := by decide +kernel
theorem dX12_leaking_41 : decode cX12_leaking 41 = .ok (.goto 4, 3) := by decide +kernel
theorem dX12_leaking_44 : decode cX12_leaking 44 = .ok (.iconst 0, 1) := by decide +kernel
theorem dX12_leaking_45 : decode cX12_leaking 45 = .ok (.iastore, 1) := by decide +kernel
theorem dX12_leaking_46 : decode cX12_leaking 46 = .ok (.aload_n 0, 1) := by decide +kernel
theorem dX12_leaking_47 : decode cX12_leaking 47 = .ok (.iconst 0, 1) := by decide +kernel
theorem dX12_leaking_48 : decode cX12_leaking 48 = .ok (.invokevirtual 454, 3) := by decide +kernel
theorem dX12_leaking_51 : decode cX12_leaking 51 = .ok (.lstore 4, 2) := by decide +kernel
theorem dX12_leaking_53 : decode cX12_leaking 53 = .ok (.lload 4, 2) := by decide +kernel
theorem dX12_leaking_55 : decode cX12_leaking 55 = .ok (.lconst 0, 1) := by decide +kernel
theorem dX12_leaking_56 : decode cX12_leaking 56 = .ok (.lcmp, 1) := by decide +kernel
theorem dX12_leaking_57 : decode cX12_leaking 57 = .ok (.ifCond .ge 7, 3) := by decide +kernel
theorem dX12_leaking_60 : decode cX12_leaking 60 = .ok (.iconst 0, 1) := by decide +kernel
theorem dX12_leaking_61 : decode cX12_leaking 61 = .ok (.goto 28, 3) := by decide +kernel
theorem dX12_leaking_64 : decode cX12_leaking 64 = .ok (.lload 4, 2) := by decide +kernel
theorem dX12_leaking_66 : decode cX12_leaking 66 = .ok (.aload_n 0, 1) := by decide +kernel
theorem dX12_leaking_67 : decode cX12_leaking 67 = .ok (.iload_n 1, 1) := by decide +kernel
theorem dX12_leaking_68 : decode cX12_leaking 68 = .ok (.iload_n 2, 1) := by decide +kernel
theorem dX12_leaking_69 : decode cX12_leaking 69 = .ok (.invokevirtual 440, 3) := by decide +kernel
theorem dX12_leaking_72 : decode cX12_leaking 72 = .ok (.i2l, 1) := by decide +kernel
theorem dX12_leaking_73 : decode cX12_leaking 73 = .ok (.lcmp, 1) := by decide +kernel
theorem dX12_leaking_74 : decode cX12_leaking 74 = .ok (.ifCond .le 12, 3) := by decide +kernel
theorem dX12_leaking_77 : decode cX12_leaking 77 = .ok (.aload_n 0, 1) := by decide +kernel
theorem dX12_leaking_78 : decode cX12_leaking 78 = .ok (.iload_n 1, 1) := by decide +kernel
theorem dX12_leaking_79 : decode cX12_leaking 79 = .ok (.iload_n 2, 1) := by decide +kernel
theorem dX12_leaking_80 : decode cX12_leaking 80 = .ok (.invokevirtual 440, 3) := by decide +kernel
theorem dX12_leaking_83 : decode cX12_leaking 83 = .ok (.goto 6, 3) := by decide +kernel
theorem dX12_leaking_86 : decode cX12_leaking 86 = .ok (.lload 4, 2) := by decide +kernel
theorem dX12_leaking_88 : decode cX12_leaking 88 = .ok (.l2i, 1) := by decide +kernel
theorem dX12_leaking_89 : decode cX12_leaking 89 = .ok (.ireturn, 1) := by decide +kernel
theorem dX12_worth_0 : decode cX12_worth 0 = .ok (.aload_n 0, 1) := by decide +kernel
theorem dX12_worth_1 : decode cX12_worth 1 = .ok (.iload_n 1, 1) := by decide +kernel
theorem dX12_worth_2 : decode cX12_worth 2 = .ok (.iload_n 2, 1) := by decide +kernel
theorem dX12_worth_3 : decode cX12_worth 3 = .ok (.invokevirtual 440, 3) := by decide +kernel
theorem dX12_worth_6 : decode cX12_worth 6 = .ok (.ifCond .eq 11, 3) := by decide +kernel
theorem dX12_worth_9 : decode cX12_worth 9 = .ok (.aload_n 0, 1) := by decide +kernel
theorem dX12_worth_10 : decode cX12_worth 10 = .ok (.iconst 1, 1) := by decide +kernel
theorem dX12_worth_11 : decode cX12_worth 11 = .ok (.invokevirtual 447, 3) := by decide +kernel
theorem dX12_worth_14 : decode cX12_worth 14 = .ok (.ifCond .ne 10, 3) := by decide +kernel
theorem dX12_worth_17 : decode cX12_worth 17 = .ok (.aload_n 0, 1) := by decide +kernel
theorem dX12_worth_18 : decode cX12_worth 18 = .ok (.iload_n 1, 1) := by decide +kernel
theorem dX12_worth_19 : decode cX12_worth 19 = .ok (.iload_n 2, 1) := by decide +kernel
theorem dX12_worth_20 : decode cX12_worth 20 = .ok (.invokevirtual 440, 3) := by decide +kernel
theorem dX12_worth_23 : decode cX12_worth 23 = .ok (.ireturn, 1) := by decide +kernel
theorem dX12_worth_24 : decode cX12_worth 24 = .ok (.aload_n 0, 1) := by decide +kernel
theorem dX12_worth_25 : decode cX12_worth 25 = .ok (.iload_n 1, 1) := by decide +kernel
theorem dX12_worth_26 : decode cX12_worth 26 = .ok (.iload_n 2, 1) := by decide +kernel
theorem dX12_worth_27 : decode cX12_worth 27 = .ok (.aload_n 0, 1) := by decide +kernel
theorem dX12_worth_28 : decode cX12_worth 28 = .ok (.iload_n 1, 1) := by decide +kernel
theorem dX12_worth_29 : decode cX12_worth 29 = .ok (.iload_n 2, 1) := by decide +kernel
theorem dX12_worth_30 : decode cX12_worth 30 = .ok (.invokevirtual 437, 3) := by decide +kernel
theorem dX12_worth_33 : decode cX12_worth 33 = .ok (.invokevirtual 450, 3) := by decide +kernel
theorem dX12_worth_36 : decode cX12_worth 36 = .ok (.aload_n 0, 1) := by decide +kernel
theorem dX12_worth_37 : decode cX12_worth 37 = .ok (.iconst 1, 1) := by decide +kernel
theorem dX12_worth_38 : decode cX12_worth 38 = .ok (.invokevirtual 454, 3) := by decide +kernel
theorem dX12_worth_41 : decode cX12_worth 41 = .ok (.lstore_n 3, 1) := by decide +kernel
theorem dX12_worth_42 : decode cX12_worth 42 = .ok (.lload_n 3, 1) := by decide +kernel
theorem dX12_worth_43 : decode cX12_worth 43 = .ok (.lconst 0, 1) := by decide +kernel
theorem dX12_worth_44 : decode cX12_worth 44 = .ok (.lcmp, 1) := by decide +kernel
theorem dX12_worth_45 : decode cX12_worth 45 = .ok (.ifCond .ge 7, 3) := by decide +kernel
theorem dX12_worth_48 : decode cX12_worth 48 = .ok (.iconst 0, 1) := by decide +kernel
theorem dX12_worth_49 : decode cX12_worth 49 = .ok (.goto 19, 3) := by decide +kernel
theorem dX12_worth_52 : decode cX12_worth 52 = .ok (.lload_n 3, 1) := by decide +kernel
theorem dX12_worth_53 : decode cX12_worth 53 = .ok (.ldc2_w 458, 3) := by decide +kernel
theorem dX12_worth_56 : decode cX12_worth 56 = .ok (.lcmp, 1) := by decide +kernel
theorem dX12_worth_57 : decode cX12_worth 57 = .ok (.ifCond .le 9, 3) := by decide +kernel
theorem dX12_worth_60 : decode cX12_worth 60 = .ok (.sipush 9999, 3) := by decide +kernel
theorem dX12_worth_63 : decode cX12_worth 63 = .ok (.goto 5, 3) := by decide +kernel
theorem dX12_worth_66 : decode cX12_worth 66 = .ok (.lload_n 3, 1) := by decide +kernel
theorem dX12_worth_67 : decode cX12_worth 67 = .ok (.l2i, 1) := by decide +kernel
theorem dX12_worth_68 : decode cX12_worth 68 = .ok (.ireturn, 1) := by decide +kernel
theorem dX12_steps_0 : decode cX12_steps 0 = .ok (.aload_n 0, 1) := by decide +kernel
theorem dX12_steps_1 : decode cX12_steps 1 = .ok (.getfield 60, 3) := by decide +kernel
theorem dX12_steps_4 : decode cX12_steps 4 = .ok (.bipush 8, 2) := by decide +kernel
theorem dX12_steps_6 : decode cX12_steps 6 = .ok (.aload_n 0, 1) := by decide +kernel
theorem dX12_steps_7 : decode cX12_steps 7 = .ok (.getfield 51, 3) := by decide +kernel
theorem dX12_steps_10 : decode cX12_steps 10 = .ok (.imul, 1) := by decide +kernel
theorem dX12_steps_11 : decode cX12_steps 11 = .ok (.iload_n 1, 1) := by decide +kernel
theorem dX12_steps_12 : decode cX12_steps 12 = .ok (.iadd, 1) := by decide +kernel
theorem dX12_steps_13 : decode cX12_steps 13 = .ok (.iaload, 1) := by decide +kernel
theorem dX12_steps_14 : decode cX12_steps 14 = .ok (.aload_n 0, 1) := by decide +kernel
theorem dX12_steps_15 : decode cX12_steps 15 = .ok (.getfield 60, 3) := by decide +kernel
theorem dX12_steps_18 : decode cX12_steps 18 = .ok (.bipush 8, 2) := by decide +kernel
theorem dX12_steps_20 : decode cX12_steps 20 = .ok (.aload_n 0, 1) := by decide +kernel
theorem dX12_steps_21 : decode cX12_steps 21 = .ok (.getfield 51, 3) := by decide +kernel
theorem dX12_steps_24 : decode cX12_steps 24 = .ok (.imul, 1) := by decide +kernel
theorem dX12_steps_25 : decode cX12_steps 25 = .ok (.iload_n 2, 1) := by decide +kernel
theorem dX12_steps_26 : decode cX12_steps 26 = .ok (.iadd, 1) := by decide +kernel
theorem dX12_steps_27 : decode cX12_steps 27 = .ok (.iaload, 1) := by decide +kernel
theorem dX12_steps_28 : decode cX12_steps 28 = .ok (.if_icmp .ge 35, 3) := by decide +kernel
theorem dX12_steps_31 : decode cX12_steps 31 = .ok (.aload_n 0, 1) := by decide +kernel
theorem dX12_steps_32 : decode cX12_steps 32 = .ok (.getfield 60, 3) := by decide +kernel
theorem dX12_steps_35 : decode cX12_steps 35 = .ok (.bipush 8, 2) := by decide +kernel
theorem dX12_steps_37 : decode cX12_steps 37 = .ok (.aload_n 0, 1) := by decide +kernel
theorem dX12_steps_38 : decode cX12_steps 38 = .ok (.getfield 51, 3) := by decide +kernel
theorem dX12_steps_41 : decode cX12_steps 41 = .ok (.imul, 1) := by decide +kernel
theorem dX12_steps_42 : decode cX12_steps 42 = .ok (.iload_n 2, 1) := by decide +kernel
theorem dX12_steps_43 : decode cX12_steps 43 = .ok (.iadd, 1) := by decide +kernel
theorem dX12_steps_44 : decode cX12_steps 44 = .ok (.iaload, 1) := by decide +kernel
theorem dX12_steps_45 : decode cX12_steps 45 = .ok (.aload_n 0, 1) := by decide +kernel
theorem dX12_steps_46 : decode cX12_steps 46 = .ok (.getfield 60, 3) := by decide +kernel
theorem dX12_steps_49 : decode cX12_steps 49 = .ok (.bipush 8, 2) := by decide +kernel
theorem dX12_steps_51 : decode cX12_steps 51 = .ok (.aload_n 0, 1) := by decide +kernel
theorem dX12_steps_52 : decode cX12_steps 52 = .ok (.getfield 51, 3) := by decide +kernel
theorem dX12_steps_55 : decode cX12_steps 55 = .ok (.imul, 1) := by decide +kernel
theorem dX12_steps_56 : decode cX12_steps 56 = .ok (.iload_n 1, 1) := by decide +kernel
theorem dX12_steps_57 : decode cX12_steps 57 = .ok (.iadd, 1) := by decide +kernel
theorem dX12_steps_58 : decode cX12_steps 58 = .ok (.iaload, 1) := by decide +kernel
theorem dX12_steps_59 : decode cX12_steps 59 = .ok (.isub, 1) := by decide +kernel
theorem dX12_steps_60 : decode cX12_steps 60 = .ok (.goto 32, 3) := by decide +kernel
theorem dX12_steps_63 : decode cX12_steps 63 = .ok (.aload_n 0, 1) := by decide +kernel
theorem dX12_steps_64 : decode cX12_steps 64 = .ok (.getfield 60, 3) := by decide +kernel
theorem dX12_steps_67 : decode cX12_steps 67 = .ok (.bipush 8, 2) := by decide +kernel
theorem dX12_steps_69 : decode cX12_steps 69 = .ok (.aload_n 0, 1) := by decide +kernel
theorem dX12_steps_70 : decode cX12_steps 70 = .ok (.getfield 51, 3) := by decide +kernel
theorem dX12_steps_73 : decode cX12_steps 73 = .ok (.imul, 1) := by decide +kernel
theorem dX12_steps_74 : decode cX12_steps 74 = .ok (.iload_n 1, 1) := by decide +kernel
theorem dX12_steps_75 : decode cX12_steps 75 = .ok (.iadd, 1) := by decide +kernel
theorem dX12_steps_76 : decode cX12_steps 76 = .ok (.iaload, 1) := by decide +kernel
theorem dX12_steps_77 : decode cX12_steps 77 = .ok (.aload_n 0, 1) := by decide +kernel
theorem dX12_steps_78 : decode cX12_steps 78 = .ok (.getfield 60, 3) := by decide +kernel
theorem dX12_steps_81 : decode cX12_steps 81 = .ok (.bipush 8, 2) := by decide +kernel
theorem dX12_steps_83 : decode cX12_steps 83 = .ok (.aload_n 0, 1) := by decide +kernel
theorem dX12_steps_84 : decode cX12_steps 84 = .ok (.getfield 51, 3) := by decide +kernel
theorem dX12_steps_87 : decode cX12_steps 87 = .ok (.imul, 1) := by decide +kernel
theorem dX12_steps_88 : decode cX12_steps 88 = .ok (.iload_n 2, 1) := by decide +kernel
theorem dX12_steps_89 : decode cX12_steps 89 = .ok (.iadd, 1) := by decide +kernel
theorem dX12_steps_90 : decode cX12_steps 90 = .ok (.iaload, 1) := by decide +kernel
theorem dX12_steps_91 : decode cX12_steps 91 = .ok (.isub, 1) := by decide +kernel
theorem dX12_steps_92 : decode cX12_steps 92 = .ok (.ireturn, 1) := by decide +kernel
theorem dX12_canMove_0 : decode cX12_canMove 0 = .ok (.aload_n 0, 1) := by decide +kernel
theorem dX12_canMove_1 : decode cX12_canMove 1 = .ok (.iload_n 1, 1) := by decide +kernel
theorem dX12_canMove_2 : decode cX12_canMove 2 = .ok (.iload_n 2, 1) := by decide +kernel
theorem dX12_canMove_3 : decode cX12_canMove 3 = .ok (.invokevirtual 440, 3) := by decide +kernel
theorem dX12_canMove_6 : decode cX12_canMove 6 = .ok (.ifCond .eq 46, 3) := by decide +kernel
theorem dX12_canMove_9 : decode cX12_canMove 9 = .ok (.aload_n 0, 1) := by decide +kernel
theorem dX12_canMove_10 : decode cX12_canMove 10 = .ok (.iload_n 1, 1) := by decide +kernel
theorem dX12_canMove_11 : decode cX12_canMove 11 = .ok (.iload_n 2, 1) := by decide +kernel
theorem dX12_canMove_12 : decode cX12_canMove 12 = .ok (.invokevirtual 437, 3) := by decide +kernel
theorem dX12_canMove_15 : decode cX12_canMove 15 = .ok (.iload_n 3, 1) := by decide +kernel
theorem dX12_canMove_16 : decode cX12_canMove 16 = .ok (.if_icmp .eq 36, 3) := by decide +kernel
theorem dX12_canMove_19 : decode cX12_canMove 19 = .ok (.aload_n 0, 1) := by decide +kernel
theorem dX12_canMove_20 : decode cX12_canMove 20 = .ok (.iload_n 1, 1) := by decide +kernel
theorem dX12_canMove_21 : decode cX12_canMove 21 = .ok (.iload_n 2, 1) := by decide +kernel
theorem dX12_canMove_22 : decode cX12_canMove 22 = .ok (.invokevirtual 440, 3) := by decide +kernel
theorem dX12_canMove_25 : decode cX12_canMove 25 = .ok (.aload_n 0, 1) := by decide +kernel
theorem dX12_canMove_26 : decode cX12_canMove 26 = .ok (.getfield 84, 3) := by decide +kernel
theorem dX12_canMove_29 : decode cX12_canMove 29 = .ok (.aload_n 0, 1) := by decide +kernel
theorem dX12_canMove_30 : decode cX12_canMove 30 = .ok (.getfield 51, 3) := by decide +kernel
theorem dX12_canMove_33 : decode cX12_canMove 33 = .ok (.iaload, 1) := by decide +kernel
theorem dX12_canMove_34 : decode cX12_canMove 34 = .ok (.if_icmp .gt 18, 3) := by decide +kernel
theorem dX12_canMove_37 : decode cX12_canMove 37 = .ok (.aload_n 0, 1) := by decide +kernel
theorem dX12_canMove_38 : decode cX12_canMove 38 = .ok (.iload_n 1, 1) := by decide +kernel
theorem dX12_canMove_39 : decode cX12_canMove 39 = .ok (.iload_n 3, 1) := by decide +kernel
theorem dX12_canMove_40 : decode cX12_canMove 40 = .ok (.invokevirtual 460, 3) := by decide +kernel
theorem dX12_canMove_43 : decode cX12_canMove 43 = .ok (.aload_n 0, 1) := by decide +kernel
theorem dX12_canMove_44 : decode cX12_canMove 44 = .ok (.iload_n 1, 1) := by decide +kernel
theorem dX12_canMove_45 : decode cX12_canMove 45 = .ok (.iload_n 2, 1) := by decide +kernel
theorem dX12_canMove_46 : decode cX12_canMove 46 = .ok (.invokevirtual 440, 3) := by decide +kernel
theorem dX12_canMove_49 : decode cX12_canMove 49 = .ok (.if_icmp .ge 5, 3) := by decide +kernel
theorem dX12_canMove_52 : decode cX12_canMove 52 = .ok (.iconst 0, 1) := by decide +kernel
theorem dX12_canMove_53 : decode cX12_canMove 53 = .ok (.ireturn, 1) := by decide +kernel
theorem dX12_canMove_54 : decode cX12_canMove 54 = .ok (.aload_n 0, 1) := by decide +kernel
theorem dX12_canMove_55 : decode cX12_canMove 55 = .ok (.iconst 2, 1) := by decide +kernel
theorem dX12_canMove_56 : decode cX12_canMove 56 = .ok (.invokevirtual 447, 3) := by decide +kernel
theorem dX12_canMove_59 : decode cX12_canMove 59 = .ok (.ifCond .ne 5, 3) := by decide +kernel
theorem dX12_canMove_62 : decode cX12_canMove 62 = .ok (.iconst 1, 1) := by decide +kernel
theorem dX12_canMove_63 : decode cX12_canMove 63 = .ok (.ireturn, 1) := by decide +kernel
theorem dX12_canMove_64 : decode cX12_canMove 64 = .ok (.aload_n 0, 1) := by decide +kernel
theorem dX12_canMove_65 : decode cX12_canMove 65 = .ok (.iload_n 1, 1) := by decide +kernel
theorem dX12_canMove_66 : decode cX12_canMove 66 = .ok (.iload_n 2, 1) := by decide +kernel
theorem dX12_canMove_67 : decode cX12_canMove 67 = .ok (.iload_n 3, 1) := by decide +kernel
theorem dX12_canMove_68 : decode cX12_canMove 68 = .ok (.invokevirtual 450, 3) := by decide +kernel
theorem dX12_canMove_71 : decode cX12_canMove 71 = .ok (.aload_n 0, 1) := by decide +kernel
theorem dX12_canMove_72 : decode cX12_canMove 72 = .ok (.getfield 186, 3) := by decide +kernel
theorem dX12_canMove_75 : decode cX12_canMove 75 = .ok (.iconst 5, 1) := by decide +kernel
theorem dX12_canMove_76 : decode cX12_canMove 76 = .ok (.aload_n 0, 1) := by decide +kernel
theorem dX12_canMove_77 : decode cX12_canMove 77 = .ok (.aload_n 0, 1) := by decide +kernel
theorem dX12_canMove_78 : decode cX12_canMove 78 = .ok (.iload_n 1, 1) := by decide +kernel
theorem dX12_canMove_79 : decode cX12_canMove 79 = .ok (.iload_n 2, 1) := by decide +kernel
theorem dX12_canMove_80 : decode cX12_canMove 80 = .ok (.invokevirtual 437, 3) := by decide +kernel
theorem dX12_canMove_83 : decode cX12_canMove 83 = .ok (.iload_n 3, 1) := by decide +kernel
theorem dX12_canMove_84 : decode cX12_canMove 84 = .ok (.invokevirtual 463, 3) := by decide +kernel
theorem dX12_canMove_87 : decode cX12_canMove 87 = .ok (.iastore, 1) := by decide +kernel
theorem dX12_canMove_88 : decode cX12_canMove 88 = .ok (.aload_n 0, 1) := by decide +kernel
theorem dX12_canMove_89 : decode cX12_canMove 89 = .ok (.getfield 186, 3) := by decide +kernel
theorem dX12_canMove_92 : decode cX12_canMove 92 = .ok (.bipush 6, 2) := by decide +kernel
theorem dX12_canMove_94 : decode cX12_canMove 94 = .ok (.aload_n 0, 1) := by decide +kernel
theorem dX12_canMove_95 : decode cX12_canMove 95 = .ok (.iload_n 1, 1) := by decide +kernel
theorem dX12_canMove_96 : decode cX12_canMove 96 = .ok (.iload_n 3, 1) := by decide +kernel
theorem dX12_canMove_97 : decode cX12_canMove 97 = .ok (.invokevirtual 460, 3) := by decide +kernel
theorem dX12_canMove_100 : decode cX12_canMove 100 = .ok (.iastore, 1) := by decide +kernel
theorem dX12_canMove_101 : decode cX12_canMove 101 = .ok (.aload_n 0, 1) := by decide +kernel
theorem dX12_canMove_102 : decode cX12_canMove 102 = .ok (.iconst 2, 1) := by decide +kernel
theorem dX12_canMove_103 : decode cX12_canMove 103 = .ok (.invokevirtual 454, 3) := by decide +kernel
theorem dX12_canMove_106 : decode cX12_canMove 106 = .ok (.lconst 1, 1) := by decide +kernel
theorem dX12_canMove_107 : decode cX12_canMove 107 = .ok (.lcmp, 1) := by decide +kernel
theorem dX12_canMove_108 : decode cX12_canMove 108 = .ok (.ifCond .ne 7, 3) := by decide +kernel
theorem dX12_canMove_111 : decode cX12_canMove 111 = .ok (.iconst 1, 1) := by decide +kernel
theorem dX12_canMove_112 : decode cX12_canMove 112 = .ok (.goto 4, 3) := by decide +kernel
theorem dX12_canMove_115 : decode cX12_canMove 115 = .ok (.iconst 0, 1) := by decide +kernel
theorem dX12_canMove_116 : decode cX12_canMove 116 = .ok (.ireturn, 1) := by decide +kernel
theorem dX12_sets_0 : decode cX12_sets 0 = .ok (.bipush 8, 2) := by decide +kernel
theorem dX12_sets_2 : decode cX12_sets 2 = .ok (.iload_n 1, 1) := by decide +kernel
theorem dX12_sets_3 : decode cX12_sets 3 = .ok (.imul, 1) := by decide +kernel
theorem dX12_sets_4 : decode cX12_sets 4 = .ok (.iload_n 2, 1) := by decide +kernel
theorem dX12_sets_5 : decode cX12_sets 5 = .ok (.iadd, 1) := by decide +kernel
theorem dX12_sets_6 : decode cX12_sets 6 = .ok (.istore 4, 2) := by decide +kernel
theorem dX12_sets_8 : decode cX12_sets 8 = .ok (.aload_n 0, 1) := by decide +kernel
theorem dX12_sets_9 : decode cX12_sets 9 = .ok (.getfield 156, 3) := by decide +kernel
theorem dX12_sets_12 : decode cX12_sets 12 = .ok (.iload 4, 2) := by decide +kernel
theorem dX12_sets_14 : decode cX12_sets 14 = .ok (.iload_n 3, 1) := by decide +kernel
theorem dX12_sets_15 : decode cX12_sets 15 = .ok (.iastore, 1) := by decide +kernel
theorem dX12_sets_16 : decode cX12_sets 16 = .ok (.iload_n 3, 1) := by decide +kernel
theorem dX12_sets_17 : decode cX12_sets 17 = .ok (.ifCond .le 4, 3) := by decide +kernel
theorem dX12_sets_20 : decode cX12_sets 20 = .ok (.return_, 1) := by decide +kernel
theorem dX12_sets_21 : decode cX12_sets 21 = .ok (.aload_n 0, 1) := by decide +kernel
theorem dX12_sets_22 : decode cX12_sets 22 = .ok (.getfield 159, 3) := by decide +kernel
theorem dX12_sets_25 : decode cX12_sets 25 = .ok (.iload 4, 2) := by decide +kernel
theorem dX12_sets_27 : decode cX12_sets 27 = .ok (.iconst (-1), 1) := by decide +kernel
theorem dX12_sets_28 : decode cX12_sets 28 = .ok (.iastore, 1) := by decide +kernel
theorem dX12_sets_29 : decode cX12_sets 29 = .ok (.aload_n 0, 1) := by decide +kernel
theorem dX12_sets_30 : decode cX12_sets 30 = .ok (.getfield 162, 3) := by decide +kernel
theorem dX12_sets_33 : decode cX12_sets 33 = .ok (.iload 4, 2) := by decide +kernel
theorem dX12_sets_35 : decode cX12_sets 35 = .ok (.iconst (-1), 1) := by decide +kernel
theorem dX12_sets_36 : decode cX12_sets 36 = .ok (.iastore, 1) := by decide +kernel
theorem dX12_sets_37 : decode cX12_sets 37 = .ok (.return_, 1) := by decide +kernel
theorem dX12_passes_0 : decode cX12_passes 0 = .ok (.iconst 0, 1) := by decide +kernel
theorem dX12_passes_1 : decode cX12_passes 1 = .ok (.istore_n 3, 1) := by decide +kernel
theorem dX12_passes_2 : decode cX12_passes 2 = .ok (.iconst 0, 1) := by decide +kernel
theorem dX12_passes_3 : decode cX12_passes 3 = .ok (.istore 4, 2) := by decide +kernel
theorem dX12_passes_5 : decode cX12_passes 5 = .ok (.iload 4, 2) := by decide +kernel
theorem dX12_passes_7 : decode cX12_passes 7 = .ok (.aload_n 0, 1) := by decide +kernel
theorem dX12_passes_8 : decode cX12_passes 8 = .ok (.getfield 66, 3) := by decide +kernel
theorem dX12_passes_11 : decode cX12_passes 11 = .ok (.aload_n 0, 1) := by decide +kernel
theorem dX12_passes_12 : decode cX12_passes 12 = .ok (.getfield 51, 3) := by decide +kernel
theorem dX12_passes_15 : decode cX12_passes 15 = .ok (.iaload, 1) := by decide +kernel
theorem dX12_passes_16 : decode cX12_passes 16 = .ok (.if_icmp .ge 24, 3) := by decide +kernel
theorem dX12_passes_19 : decode cX12_passes 19 = .ok (.aload_n 0, 1) := by decide +kernel
theorem dX12_passes_20 : decode cX12_passes 20 = .ok (.getfield 189, 3) := by decide +kernel
theorem dX12_passes_23 : decode cX12_passes 23 = .ok (.iload 4, 2) := by decide +kernel
theorem dX12_passes_25 : decode cX12_passes 25 = .ok (.aload_n 0, 1) := by decide +kernel
theorem dX12_passes_26 : decode cX12_passes 26 = .ok (.iload_n 1, 1) := by decide +kernel
theorem dX12_passes_27 : decode cX12_passes 27 = .ok (.iload 4, 2) := by decide +kernel
theorem dX12_passes_29 : decode cX12_passes 29 = .ok (.iload_n 2, 1) := by decide +kernel
theorem dX12_passes_30 : decode cX12_passes 30 = .ok (.invokevirtual 466, 3) := by decide +kernel
theorem dX12_passes_33 : decode cX12_passes 33 = .ok (.iastore, 1) := by decide +kernel
theorem dX12_passes_34 : decode cX12_passes 34 = .ok (.iinc 4 1, 3) := by decide +kernel
theorem dX12_passes_37 : decode cX12_passes 37 = .ok (.goto (-32), 3) := by decide +kernel
theorem dX12_passes_40 : decode cX12_passes 40 = .ok (.iconst 0, 1) := by decide +kernel
theorem dX12_passes_41 : decode cX12_passes 41 = .ok (.istore 4, 2) := by decide +kernel
theorem dX12_passes_43 : decode cX12_passes 43 = .ok (.iload 4, 2) := by decide +kernel
theorem dX12_passes_45 : decode cX12_passes 45 = .ok (.aload_n 0, 1) := by decide +kernel
theorem dX12_passes_46 : decode cX12_passes 46 = .ok (.getfield 66, 3) := by decide +kernel
theorem dX12_passes_49 : decode cX12_passes 49 = .ok (.aload_n 0, 1) := by decide +kernel
theorem dX12_passes_50 : decode cX12_passes 50 = .ok (.getfield 51, 3) := by decide +kernel
theorem dX12_passes_53 : decode cX12_passes 53 = .ok (.iaload, 1) := by decide +kernel
theorem dX12_passes_54 : decode cX12_passes 54 = .ok (.if_icmp .ge 41, 3) := by decide +kernel
theorem dX12_passes_57 : decode cX12_passes 57 = .ok (.aload_n 0, 1) := by decide +kernel
theorem dX12_passes_58 : decode cX12_passes 58 = .ok (.iload_n 1, 1) := by decide +kernel
theorem dX12_passes_59 : decode cX12_passes 59 = .ok (.iload 4, 2) := by decide +kernel
theorem dX12_passes_61 : decode cX12_passes 61 = .ok (.aload_n 0, 1) := by decide +kernel
theorem dX12_passes_62 : decode cX12_passes 62 = .ok (.iload_n 1, 1) := by decide +kernel
theorem dX12_passes_63 : decode cX12_passes 63 = .ok (.iload 4, 2) := by decide +kernel
theorem dX12_passes_65 : decode cX12_passes 65 = .ok (.invokevirtual 440, 3) := by decide +kernel
theorem dX12_passes_68 : decode cX12_passes 68 = .ok (.aload_n 0, 1) := by decide +kernel
theorem dX12_passes_69 : decode cX12_passes 69 = .ok (.getfield 189, 3) := by decide +kernel
theorem dX12_passes_72 : decode cX12_passes 72 = .ok (.iload 4, 2) := by decide +kernel
theorem dX12_passes_74 : decode cX12_passes 74 = .ok (.iaload, 1) := by decide +kernel
theorem dX12_passes_75 : decode cX12_passes 75 = .ok (.isub, 1) := by decide +kernel
theorem dX12_passes_76 : decode cX12_passes 76 = .ok (.invokevirtual 470, 3) := by decide +kernel
theorem dX12_passes_79 : decode cX12_passes 79 = .ok (.iload_n 3, 1) := by decide +kernel
theorem dX12_passes_80 : decode cX12_passes 80 = .ok (.aload_n 0, 1) := by decide +kernel
theorem dX12_passes_81 : decode cX12_passes 81 = .ok (.getfield 189, 3) := by decide +kernel
theorem dX12_passes_84 : decode cX12_passes 84 = .ok (.iload 4, 2) := by decide +kernel
theorem dX12_passes_86 : decode cX12_passes 86 = .ok (.iaload, 1) := by decide +kernel
theorem dX12_passes_87 : decode cX12_passes 87 = .ok (.iadd, 1) := by decide +kernel
theorem dX12_passes_88 : decode cX12_passes 88 = .ok (.istore_n 3, 1) := by decide +kernel
theorem dX12_passes_89 : decode cX12_passes 89 = .ok (.iinc 4 1, 3) := by decide +kernel
theorem dX12_passes_92 : decode cX12_passes 92 = .ok (.goto (-49), 3) := by decide +kernel
theorem dX12_passes_95 : decode cX12_passes 95 = .ok (.aload_n 0, 1) := by decide +kernel
theorem dX12_passes_96 : decode cX12_passes 96 = .ok (.getfield 153, 3) := by decide +kernel
theorem dX12_passes_99 : decode cX12_passes 99 = .ok (.iload_n 1, 1) := by decide +kernel
theorem dX12_passes_100 : decode cX12_passes 100 = .ok (.dup2, 1) := by decide +kernel
theorem dX12_passes_101 : decode cX12_passes 101 = .ok (.iaload, 1) := by decide +kernel
theorem dX12_passes_102 : decode cX12_passes 102 = .ok (.iconst 1, 1) := by decide +kernel
theorem dX12_passes_103 : decode cX12_passes 103 = .ok (.iadd, 1) := by decide +kernel
theorem dX12_passes_104 : decode cX12_passes 104 = .ok (.iastore, 1) := by decide +kernel
theorem dX12_passes_105 : decode cX12_passes 105 = .ok (.iload_n 3, 1) := by decide +kernel
theorem dX12_passes_106 : decode cX12_passes 106 = .ok (.ireturn, 1) := by decide +kernel
theorem dX12_isHollow_0 : decode cX12_isHollow 0 = .ok (.iload_n 1, 1) := by decide +kernel
theorem dX12_isHollow_1 : decode cX12_isHollow 1 = .ok (.ifCond .lt 20, 3) := by decide +kernel
theorem dX12_isHollow_4 : decode cX12_isHollow 4 = .ok (.iload_n 1, 1) := by decide +kernel
theorem dX12_isHollow_5 : decode cX12_isHollow 5 = .ok (.aload_n 0, 1) := by decide +kernel
theorem dX12_isHollow_6 : decode cX12_isHollow 6 = .ok (.getfield 54, 3) := by decide +kernel
theorem dX12_isHollow_9 : decode cX12_isHollow 9 = .ok (.aload_n 0, 1) := by decide +kernel
theorem dX12_isHollow_10 : decode cX12_isHollow 10 = .ok (.getfield 51, 3) := by decide +kernel
theorem dX12_isHollow_13 : decode cX12_isHollow 13 = .ok (.iaload, 1) := by decide +kernel
theorem dX12_isHollow_14 : decode cX12_isHollow 14 = .ok (.if_icmp .ge 7, 3) := by decide +kernel
theorem dX12_isHollow_17 : decode cX12_isHollow 17 = .ok (.iconst 1, 1) := by decide +kernel
theorem dX12_isHollow_18 : decode cX12_isHollow 18 = .ok (.goto 4, 3) := by decide +kernel
theorem dX12_isHollow_21 : decode cX12_isHollow 21 = .ok (.iconst 0, 1) := by decide +kernel
theorem dX12_isHollow_22 : decode cX12_isHollow 22 = .ok (.ireturn, 1) := by decide +kernel
theorem dX12_isOwner_0 : decode cX12_isOwner 0 = .ok (.iload_n 1, 1) := by decide +kernel
theorem dX12_isOwner_1 : decode cX12_isOwner 1 = .ok (.ifCond .lt 20, 3) := by decide +kernel
theorem dX12_isOwner_4 : decode cX12_isOwner 4 = .ok (.iload_n 1, 1) := by decide +kernel
theorem dX12_isOwner_5 : decode cX12_isOwner 5 = .ok (.aload_n 0, 1) := by decide +kernel
theorem dX12_isOwner_6 : decode cX12_isOwner 6 = .ok (.getfield 63, 3) := by decide +kernel
theorem dX12_isOwner_9 : decode cX12_isOwner 9 = .ok (.aload_n 0, 1) := by decide +kernel
theorem dX12_isOwner_10 : decode cX12_isOwner 10 = .ok (.getfield 51, 3) := by decide +kernel
theorem dX12_isOwner_13 : decode cX12_isOwner 13 = .ok (.iaload, 1) := by decide +kernel
theorem dX12_isOwner_14 : decode cX12_isOwner 14 = .ok (.if_icmp .ge 7, 3) := by decide +kernel
theorem dX12_isOwner_17 : decode cX12_isOwner 17 = .ok (.iconst 1, 1) := by decide +kernel
theorem dX12_isOwner_18 : decode cX12_isOwner 18 = .ok (.goto 4, 3) := by decide +kernel
theorem dX12_isOwner_21 : decode cX12_isOwner 21 = .ok (.iconst 0, 1) := by decide +kernel
theorem dX12_isOwner_22 : decode cX12_isOwner 22 = .ok (.ireturn, 1) := by decide +kernel
theorem dX12_isLake_0 : decode cX12_isLake 0 = .ok (.iload_n 1, 1) := by decide +kernel
theorem dX12_isLake_1 : decode cX12_isLake 1 = .ok (.ifCond .lt 20, 3) := by decide +kernel
theorem dX12_isLake_4 : decode cX12_isLake 4 = .ok (.iload_n 1, 1) := by decide +kernel
theorem dX12_isLake_5 : decode cX12_isLake 5 = .ok (.aload_n 0, 1) := by decide +kernel
theorem dX12_isLake_6 : decode cX12_isLake 6 = .ok (.getfield 66, 3) := by decide +kernel
theorem dX12_isLake_9 : decode cX12_isLake 9 = .ok (.aload_n 0, 1) := by decide +kernel
theorem dX12_isLake_10 : decode cX12_isLake 10 = .ok (.getfield 51, 3) := by decide +kernel
theorem dX12_isLake_13 : decode cX12_isLake 13 = .ok (.iaload, 1) := by decide +kernel
theorem dX12_isLake_14 : decode cX12_isLake 14 = .ok (.if_icmp .ge 7, 3) := by decide +kernel
theorem dX12_isLake_17 : decode cX12_isLake 17 = .ok (.iconst 1, 1) := by decide +kernel
theorem dX12_isLake_18 : decode cX12_isLake 18 = .ok (.goto 4, 3) := by decide +kernel
theorem dX12_isLake_21 : decode cX12_isLake 21 = .ok (.iconst 0, 1) := by decide +kernel
theorem dX12_isLake_22 : decode cX12_isLake 22 = .ok (.ireturn, 1) := by decide +kernel
theorem dX12_lakesOf_0 : decode cX12_lakesOf 0 = .ok (.iconst 0, 1) := by decide +kernel
theorem dX12_lakesOf_1 : decode cX12_lakesOf 1 = .ok (.istore_n 3, 1) := by decide +kernel
theorem dX12_lakesOf_2 : decode cX12_lakesOf 2 = .ok (.iconst 0, 1) := by decide +kernel
theorem dX12_lakesOf_3 : decode cX12_lakesOf 3 = .ok (.istore 4, 2) := by decide +kernel
theorem dX12_lakesOf_5 : decode cX12_lakesOf 5 = .ok (.iload 4, 2) := by decide +kernel
theorem dX12_lakesOf_7 : decode cX12_lakesOf 7 = .ok (.aload_n 0, 1) := by decide +kernel
theorem dX12_lakesOf_8 : decode cX12_lakesOf 8 = .ok (.getfield 66, 3) := by decide +kernel
theorem dX12_lakesOf_11 : decode cX12_lakesOf 11 = .ok (.aload_n 0, 1) := by decide +kernel
theorem dX12_lakesOf_12 : decode cX12_lakesOf 12 = .ok (.getfield 51, 3) := by decide +kernel
theorem dX12_lakesOf_15 : decode cX12_lakesOf 15 = .ok (.iaload, 1) := by decide +kernel
theorem dX12_lakesOf_16 : decode cX12_lakesOf 16 = .ok (.if_icmp .ge 31, 3) := by decide +kernel
theorem dX12_lakesOf_19 : decode cX12_lakesOf 19 = .ok (.iload_n 3, 1) := by decide +kernel
theorem dX12_lakesOf_20 : decode cX12_lakesOf 20 = .ok (.aload_n 0, 1) := by decide +kernel
theorem dX12_lakesOf_21 : decode cX12_lakesOf 21 = .ok (.iload_n 1, 1) := by decide +kernel
theorem dX12_lakesOf_22 : decode cX12_lakesOf 22 = .ok (.iload 4, 2) := by decide +kernel
theorem dX12_lakesOf_24 : decode cX12_lakesOf 24 = .ok (.invokevirtual 473, 3) := by decide +kernel
theorem dX12_lakesOf_27 : decode cX12_lakesOf 27 = .ok (.iload_n 2, 1) := by decide +kernel
theorem dX12_lakesOf_28 : decode cX12_lakesOf 28 = .ok (.if_icmp .ne 10, 3) := by decide +kernel
theorem dX12_lakesOf_31 : decode cX12_lakesOf 31 = .ok (.iconst 1, 1) := by decide +kernel
theorem dX12_lakesOf_32 : decode cX12_lakesOf 32 = .ok (.iload 4, 2) := by decide +kernel
theorem dX12_lakesOf_34 : decode cX12_lakesOf 34 = .ok (.ishl, 1) := by decide +kernel
theorem dX12_lakesOf_35 : decode cX12_lakesOf 35 = .ok (.goto 4, 3) := by decide +kernel
theorem dX12_lakesOf_38 : decode cX12_lakesOf 38 = .ok (.iconst 0, 1) := by decide +kernel
theorem dX12_lakesOf_39 : decode cX12_lakesOf 39 = .ok (.ior, 1) := by decide +kernel
theorem dX12_lakesOf_40 : decode cX12_lakesOf 40 = .ok (.istore_n 3, 1) := by decide +kernel
theorem dX12_lakesOf_41 : decode cX12_lakesOf 41 = .ok (.iinc 4 1, 3) := by decide +kernel
theorem dX12_lakesOf_44 : decode cX12_lakesOf 44 = .ok (.goto (-39), 3) := by decide +kernel
theorem dX12_lakesOf_47 : decode cX12_lakesOf 47 = .ok (.iload_n 3, 1) := by decide +kernel
theorem dX12_lakesOf_48 : decode cX12_lakesOf 48 = .ok (.ireturn, 1) := by decide +kernel
theorem dX12_worthOf_0 : decode cX12_worthOf 0 = .ok (.iconst 0, 1) := by decide +kernel
theorem dX12_worthOf_1 : decode cX12_worthOf 1 = .ok (.istore_n 3, 1) := by decide +kernel
theorem dX12_worthOf_2 : decode cX12_worthOf 2 = .ok (.iconst 0, 1) := by decide +kernel
theorem dX12_worthOf_3 : decode cX12_worthOf 3 = .ok (.istore 4, 2) := by decide +kernel
theorem dX12_worthOf_5 : decode cX12_worthOf 5 = .ok (.iload 4, 2) := by decide +kernel
theorem dX12_worthOf_7 : decode cX12_worthOf 7 = .ok (.aload_n 0, 1) := by decide +kernel
theorem dX12_worthOf_8 : decode cX12_worthOf 8 = .ok (.getfield 66, 3) := by decide +kernel
theorem dX12_worthOf_11 : decode cX12_worthOf 11 = .ok (.aload_n 0, 1) := by decide +kernel
theorem dX12_worthOf_12 : decode cX12_worthOf 12 = .ok (.getfield 51, 3) := by decide +kernel
theorem dX12_worthOf_15 : decode cX12_worthOf 15 = .ok (.iaload, 1) := by decide +kernel
theorem dX12_worthOf_16 : decode cX12_worthOf 16 = .ok (.if_icmp .ge 32, 3) := by decide +kernel
theorem dX12_worthOf_19 : decode cX12_worthOf 19 = .ok (.iload_n 3, 1) := by decide +kernel
theorem dX12_worthOf_20 : decode cX12_worthOf 20 = .ok (.iload_n 2, 1) := by decide +kernel
theorem dX12_worthOf_21 : decode cX12_worthOf 21 = .ok (.iload 4, 2) := by decide +kernel
theorem dX12_worthOf_23 : decode cX12_worthOf 23 = .ok (.invokestatic 357, 3) := by decide +kernel
theorem dX12_worthOf_26 : decode cX12_worthOf 26 = .ok (.ifCond .eq 13, 3) := by decide +kernel
theorem dX12_worthOf_29 : decode cX12_worthOf 29 = .ok (.aload_n 0, 1) := by decide +kernel
theorem dX12_worthOf_30 : decode cX12_worthOf 30 = .ok (.iload_n 1, 1) := by decide +kernel
theorem dX12_worthOf_31 : decode cX12_worthOf 31 = .ok (.iload 4, 2) := by decide +kernel
theorem dX12_worthOf_33 : decode cX12_worthOf 33 = .ok (.invokevirtual 476, 3) := by decide +kernel
theorem dX12_worthOf_36 : decode cX12_worthOf 36 = .ok (.goto 4, 3) := by decide +kernel
theorem dX12_worthOf_39 : decode cX12_worthOf 39 = .ok (.iconst 0, 1) := by decide +kernel
theorem dX12_worthOf_40 : decode cX12_worthOf 40 = .ok (.iadd, 1) := by decide +kernel
theorem dX12_worthOf_41 : decode cX12_worthOf 41 = .ok (.istore_n 3, 1) := by decide +kernel
theorem dX12_worthOf_42 : decode cX12_worthOf 42 = .ok (.iinc 4 1, 3) := by decide +kernel
theorem dX12_worthOf_45 : decode cX12_worthOf 45 = .ok (.goto (-40), 3) := by decide +kernel
theorem dX12_worthOf_48 : decode cX12_worthOf 48 = .ok (.iload_n 3, 1) := by decide +kernel
theorem dX12_worthOf_49 : decode cX12_worthOf 49 = .ok (.ireturn, 1) := by decide +kernel
theorem dX12_allLakes_0 : decode cX12_allLakes 0 = .ok (.iconst 1, 1) := by decide +kernel
theorem dX12_allLakes_1 : decode cX12_allLakes 1 = .ok (.aload_n 0, 1) := by decide +kernel
theorem dX12_allLakes_2 : decode cX12_allLakes 2 = .ok (.getfield 66, 3) := by decide +kernel
theorem dX12_allLakes_5 : decode cX12_allLakes 5 = .ok (.aload_n 0, 1) := by decide +kernel
theorem dX12_allLakes_6 : decode cX12_allLakes 6 = .ok (.getfield 51, 3) := by decide +kernel
theorem dX12_allLakes_9 : decode cX12_allLakes 9 = .ok (.iaload, 1) := by decide +kernel
theorem dX12_allLakes_10 : decode cX12_allLakes 10 = .ok (.ishl, 1) := by decide +kernel
theorem dX12_allLakes_11 : decode cX12_allLakes 11 = .ok (.iconst 1, 1) := by decide +kernel
theorem dX12_allLakes_12 : decode cX12_allLakes 12 = .ok (.isub, 1) := by decide +kernel
theorem dX12_allLakes_13 : decode cX12_allLakes 13 = .ok (.ireturn, 1) := by decide +kernel
theorem dX12_debt_0 : decode cX12_debt 0 = .ok (.aload_n 0, 1) := by decide +kernel
theorem dX12_debt_1 : decode cX12_debt 1 = .ok (.getfield 165, 3) := by decide +kernel
theorem dX12_debt_4 : decode cX12_debt 4 = .ok (.bipush 6, 2) := by decide +kernel
theorem dX12_debt_6 : decode cX12_debt 6 = .ok (.iload_n 1, 1) := by decide +kernel
theorem dX12_debt_7 : decode cX12_debt 7 = .ok (.imul, 1) := by decide +kernel
theorem dX12_debt_8 : decode cX12_debt 8 = .ok (.iload_n 2, 1) := by decide +kernel
theorem dX12_debt_9 : decode cX12_debt 9 = .ok (.iadd, 1) := by decide +kernel
theorem dX12_debt_10 : decode cX12_debt 10 = .ok (.iaload, 1) := by decide +kernel
theorem dX12_debt_11 : decode cX12_debt 11 = .ok (.ireturn, 1) := by decide +kernel
theorem dX12_owed_0 : decode cX12_owed 0 = .ok (.iconst 0, 1) := by decide +kernel
theorem dX12_owed_1 : decode cX12_owed 1 = .ok (.istore_n 3, 1) := by decide +kernel
theorem dX12_owed_2 : decode cX12_owed 2 = .ok (.iconst 0, 1) := by decide +kernel
theorem dX12_owed_3 : decode cX12_owed 3 = .ok (.istore 4, 2) := by decide +kernel
theorem dX12_owed_5 : decode cX12_owed 5 = .ok (.iload 4, 2) := by decide +kernel
theorem dX12_owed_7 : decode cX12_owed 7 = .ok (.aload_n 0, 1) := by decide +kernel
theorem dX12_owed_8 : decode cX12_owed 8 = .ok (.getfield 63, 3) := by decide +kernel
theorem dX12_owed_11 : decode cX12_owed 11 = .ok (.aload_n 0, 1) := by decide +kernel
theorem dX12_owed_12 : decode cX12_owed 12 = .ok (.getfield 51, 3) := by decide +kernel
theorem dX12_owed_15 : decode cX12_owed 15 = .ok (.iaload, 1) := by decide +kernel
theorem dX12_owed_16 : decode cX12_owed 16 = .ok (.if_icmp .ge 33, 3) := by decide +kernel
theorem dX12_owed_19 : decode cX12_owed 19 = .ok (.iload_n 3, 1) := by decide +kernel
theorem dX12_owed_20 : decode cX12_owed 20 = .ok (.iload_n 2, 1) := by decide +kernel
theorem dX12_owed_21 : decode cX12_owed 21 = .ok (.ifCond .eq 13, 3) := by decide +kernel
theorem dX12_owed_24 : decode cX12_owed 24 = .ok (.aload_n 0, 1) := by decide +kernel
theorem dX12_owed_25 : decode cX12_owed 25 = .ok (.iload_n 1, 1) := by decide +kernel
theorem dX12_owed_26 : decode cX12_owed 26 = .ok (.iload 4, 2) := by decide +kernel
theorem dX12_owed_28 : decode cX12_owed 28 = .ok (.invokevirtual 479, 3) := by decide +kernel
theorem dX12_owed_31 : decode cX12_owed 31 = .ok (.goto 10, 3) := by decide +kernel
theorem dX12_owed_34 : decode cX12_owed 34 = .ok (.aload_n 0, 1) := by decide +kernel
theorem dX12_owed_35 : decode cX12_owed 35 = .ok (.iload 4, 2) := by decide +kernel
theorem dX12_owed_37 : decode cX12_owed 37 = .ok (.iload_n 1, 1) := by decide +kernel
theorem dX12_owed_38 : decode cX12_owed 38 = .ok (.invokevirtual 479, 3) := by decide +kernel
theorem dX12_owed_41 : decode cX12_owed 41 = .ok (.iadd, 1) := by decide +kernel
theorem dX12_owed_42 : decode cX12_owed 42 = .ok (.istore_n 3, 1) := by decide +kernel
theorem dX12_owed_43 : decode cX12_owed 43 = .ok (.iinc 4 1, 3) := by decide +kernel
theorem dX12_owed_46 : decode cX12_owed 46 = .ok (.goto (-41), 3) := by decide +kernel
theorem dX12_owed_49 : decode cX12_owed 49 = .ok (.iload_n 3, 1) := by decide +kernel
theorem dX12_owed_50 : decode cX12_owed 50 = .ok (.ireturn, 1) := by decide +kernel
theorem dX12_isBroke_0 : decode cX12_isBroke 0 = .ok (.aload_n 0, 1) := by decide +kernel
theorem dX12_isBroke_1 : decode cX12_isBroke 1 = .ok (.iload_n 2, 1) := by decide +kernel
theorem dX12_isBroke_2 : decode cX12_isBroke 2 = .ok (.iconst 1, 1) := by decide +kernel
theorem dX12_isBroke_3 : decode cX12_isBroke 3 = .ok (.invokevirtual 482, 3) := by decide +kernel
theorem dX12_isBroke_6 : decode cX12_isBroke 6 = .ok (.aload_n 0, 1) := by decide +kernel
theorem dX12_isBroke_7 : decode cX12_isBroke 7 = .ok (.iload_n 1, 1) := by decide +kernel
theorem dX12_isBroke_8 : decode cX12_isBroke 8 = .ok (.aload_n 0, 1) := by decide +kernel
theorem dX12_isBroke_9 : decode cX12_isBroke 9 = .ok (.iload_n 1, 1) := by decide +kernel
theorem dX12_isBroke_10 : decode cX12_isBroke 10 = .ok (.iload_n 2, 1) := by decide +kernel
theorem dX12_isBroke_11 : decode cX12_isBroke 11 = .ok (.invokevirtual 486, 3) := by decide +kernel
theorem dX12_isBroke_14 : decode cX12_isBroke 14 = .ok (.invokevirtual 489, 3) := by decide +kernel
theorem dX12_isBroke_17 : decode cX12_isBroke 17 = .ok (.if_icmp .le 7, 3) := by decide +kernel
theorem dX12_isBroke_20 : decode cX12_isBroke 20 = .ok (.iconst 1, 1) := by decide +kernel
theorem dX12_isBroke_21 : decode cX12_isBroke 21 = .ok (.goto 4, 3) := by decide +kernel
theorem dX12_isBroke_24 : decode cX12_isBroke 24 = .ok (.iconst 0, 1) := by decide +kernel
theorem dX12_isBroke_25 : decode cX12_isBroke 25 = .ok (.ireturn, 1) := by decide +kernel
theorem dX12_bits_0 : decode cX12_bits 0 = .ok (.iconst 0, 1) := by decide +kernel
theorem dX12_bits_1 : decode cX12_bits 1 = .ok (.istore_n 1, 1) := by decide +kernel
theorem dX12_bits_2 : decode cX12_bits 2 = .ok (.iload_n 0, 1) := by decide +kernel
theorem dX12_bits_3 : decode cX12_bits 3 = .ok (.istore_n 2, 1) := by decide +kernel
theorem dX12_bits_4 : decode cX12_bits 4 = .ok (.iload_n 2, 1) := by decide +kernel
theorem dX12_bits_5 : decode cX12_bits 5 = .ok (.ifCond .eq 15, 3) := by decide +kernel
theorem dX12_bits_8 : decode cX12_bits 8 = .ok (.iinc 1 1, 3) := by decide +kernel
theorem dX12_bits_11 : decode cX12_bits 11 = .ok (.iload_n 2, 1) := by decide +kernel
theorem dX12_bits_12 : decode cX12_bits 12 = .ok (.iload_n 2, 1) := by decide +kernel
theorem dX12_bits_13 : decode cX12_bits 13 = .ok (.iconst 1, 1) := by decide +kernel
theorem dX12_bits_14 : decode cX12_bits 14 = .ok (.isub, 1) := by decide +kernel
theorem dX12_bits_15 : decode cX12_bits 15 = .ok (.iand, 1) := by decide +kernel
theorem dX12_bits_16 : decode cX12_bits 16 = .ok (.istore_n 2, 1) := by decide +kernel
theorem dX12_bits_17 : decode cX12_bits 17 = .ok (.goto (-13), 3) := by decide +kernel
theorem dX12_bits_20 : decode cX12_bits 20 = .ok (.iload_n 1, 1) := by decide +kernel
theorem dX12_bits_21 : decode cX12_bits 21 = .ok (.ireturn, 1) := by decide +kernel
theorem dX12_has_0 : decode cX12_has 0 = .ok (.iconst 0, 1) := by decide +kernel
theorem dX12_has_1 : decode cX12_has 1 = .ok (.istore_n 2, 1) := by decide +kernel
theorem dX12_has_2 : decode cX12_has 2 = .ok (.iload_n 1, 1) := by decide +kernel
theorem dX12_has_3 : decode cX12_has 3 = .ok (.tableswitch 226 0 10 #[57, 67, 77, 87, 94, 134, 166, 176, 208, 215, 220], 57) := by decide +kernel
theorem dX12_has_60 : decode cX12_has 60 = .ok (.aload_n 0, 1) := by decide +kernel
theorem dX12_has_61 : decode cX12_has 61 = .ok (.getfield 54, 3) := by decide +kernel
theorem dX12_has_64 : decode cX12_has 64 = .ok (.aload_n 0, 1) := by decide +kernel
theorem dX12_has_65 : decode cX12_has 65 = .ok (.getfield 51, 3) := by decide +kernel
theorem dX12_has_68 : decode cX12_has 68 = .ok (.iaload, 1) := by decide +kernel
theorem dX12_has_69 : decode cX12_has 69 = .ok (.ireturn, 1) := by decide +kernel
theorem dX12_has_70 : decode cX12_has 70 = .ok (.aload_n 0, 1) := by decide +kernel
theorem dX12_has_71 : decode cX12_has 71 = .ok (.getfield 63, 3) := by decide +kernel
theorem dX12_has_74 : decode cX12_has 74 = .ok (.aload_n 0, 1) := by decide +kernel
theorem dX12_has_75 : decode cX12_has 75 = .ok (.getfield 51, 3) := by decide +kernel
theorem dX12_has_78 : decode cX12_has 78 = .ok (.iaload, 1) := by decide +kernel
theorem dX12_has_79 : decode cX12_has 79 = .ok (.ireturn, 1) := by decide +kernel
theorem dX12_has_80 : decode cX12_has 80 = .ok (.aload_n 0, 1) := by decide +kernel
theorem dX12_has_81 : decode cX12_has 81 = .ok (.getfield 66, 3) := by decide +kernel
theorem dX12_has_84 : decode cX12_has 84 = .ok (.aload_n 0, 1) := by decide +kernel
theorem dX12_has_85 : decode cX12_has 85 = .ok (.getfield 51, 3) := by decide +kernel
theorem dX12_has_88 : decode cX12_has 88 = .ok (.iaload, 1) := by decide +kernel
theorem dX12_has_89 : decode cX12_has 89 = .ok (.ireturn, 1) := by decide +kernel
theorem dX12_has_90 : decode cX12_has 90 = .ok (.aload_n 0, 1) := by decide +kernel
theorem dX12_has_91 : decode cX12_has 91 = .ok (.getfield 153, 3) := by decide +kernel
theorem dX12_has_94 : decode cX12_has 94 = .ok (.iconst 0, 1) := by decide +kernel
theorem dX12_has_95 : decode cX12_has 95 = .ok (.iaload, 1) := by decide +kernel
theorem dX12_has_96 : decode cX12_has 96 = .ok (.ireturn, 1) := by decide +kernel
theorem dX12_has_97 : decode cX12_has 97 = .ok (.iconst 0, 1) := by decide +kernel
theorem dX12_has_98 : decode cX12_has 98 = .ok (.istore_n 3, 1) := by decide +kernel
theorem dX12_has_99 : decode cX12_has 99 = .ok (.iload_n 3, 1) := by decide +kernel
theorem dX12_has_100 : decode cX12_has 100 = .ok (.aload_n 0, 1) := by decide +kernel
theorem dX12_has_101 : decode cX12_has 101 = .ok (.getfield 66, 3) := by decide +kernel
theorem dX12_has_104 : decode cX12_has 104 = .ok (.aload_n 0, 1) := by decide +kernel
theorem dX12_has_105 : decode cX12_has 105 = .ok (.getfield 51, 3) := by decide +kernel
theorem dX12_has_108 : decode cX12_has 108 = .ok (.iaload, 1) := by decide +kernel
theorem dX12_has_109 : decode cX12_has 109 = .ok (.if_icmp .ge 26, 3) := by decide +kernel
theorem dX12_has_112 : decode cX12_has 112 = .ok (.iload_n 2, 1) := by decide +kernel
theorem dX12_has_113 : decode cX12_has 113 = .ok (.aload_n 0, 1) := by decide +kernel
theorem dX12_has_114 : decode cX12_has 114 = .ok (.iconst 0, 1) := by decide +kernel
theorem dX12_has_115 : decode cX12_has 115 = .ok (.iload_n 3, 1) := by decide +kernel
theorem dX12_has_116 : decode cX12_has 116 = .ok (.invokevirtual 440, 3) := by decide +kernel
theorem dX12_has_119 : decode cX12_has 119 = .ok (.ifCond .le 7, 3) := by decide +kernel
theorem dX12_has_122 : decode cX12_has 122 = .ok (.iconst 1, 1) := by decide +kernel
theorem dX12_has_123 : decode cX12_has 123 = .ok (.goto 4, 3) := by decide +kernel
theorem dX12_has_126 : decode cX12_has 126 = .ok (.iconst 0, 1) := by decide +kernel
theorem dX12_has_127 : decode cX12_has 127 = .ok (.iadd, 1) := by decide +kernel
theorem dX12_has_128 : decode cX12_has 128 = .ok (.istore_n 2, 1) := by decide +kernel
theorem dX12_has_129 : decode cX12_has 129 = .ok (.iinc 3 1, 3) := by decide +kernel
theorem dX12_has_132 : decode cX12_has 132 = .ok (.goto (-33), 3) := by decide +kernel
theorem dX12_has_135 : decode cX12_has 135 = .ok (.iload_n 2, 1) := by decide +kernel
theorem dX12_has_136 : decode cX12_has 136 = .ok (.ireturn, 1) := by decide +kernel
theorem dX12_has_137 : decode cX12_has 137 = .ok (.iconst 0, 1) := by decide +kernel
theorem dX12_has_138 : decode cX12_has 138 = .ok (.istore_n 3, 1) := by decide +kernel
theorem dX12_has_139 : decode cX12_has 139 = .ok (.iload_n 3, 1) := by decide +kernel
theorem dX12_has_140 : decode cX12_has 140 = .ok (.aload_n 0, 1) := by decide +kernel
theorem dX12_has_141 : decode cX12_has 141 = .ok (.getfield 66, 3) := by decide +kernel
theorem dX12_has_144 : decode cX12_has 144 = .ok (.aload_n 0, 1) := by decide +kernel
theorem dX12_has_145 : decode cX12_has 145 = .ok (.getfield 51, 3) := by decide +kernel
theorem dX12_has_148 : decode cX12_has 148 = .ok (.iaload, 1) := by decide +kernel
theorem dX12_has_149 : decode cX12_has 149 = .ok (.if_icmp .ge 18, 3) := by decide +kernel
theorem dX12_has_152 : decode cX12_has 152 = .ok (.iload_n 2, 1) := by decide +kernel
theorem dX12_has_153 : decode cX12_has 153 = .ok (.aload_n 0, 1) := by decide +kernel
theorem dX12_has_154 : decode cX12_has 154 = .ok (.iconst 0, 1) := by decide +kernel
theorem dX12_has_155 : decode cX12_has 155 = .ok (.iload_n 3, 1) := by decide +kernel
theorem dX12_has_156 : decode cX12_has 156 = .ok (.invokevirtual 440, 3) := by decide +kernel
theorem dX12_has_159 : decode cX12_has 159 = .ok (.iadd, 1) := by decide +kernel
theorem dX12_has_160 : decode cX12_has 160 = .ok (.istore_n 2, 1) := by decide +kernel
theorem dX12_has_161 : decode cX12_has 161 = .ok (.iinc 3 1, 3) := by decide +kernel
theorem dX12_has_164 : decode cX12_has 164 = .ok (.goto (-25), 3) := by decide +kernel
theorem dX12_has_167 : decode cX12_has 167 = .ok (.iload_n 2, 1) := by decide +kernel
theorem dX12_has_168 : decode cX12_has 168 = .ok (.ireturn, 1) := by decide +kernel
theorem dX12_has_169 : decode cX12_has 169 = .ok (.aload_n 0, 1) := by decide +kernel
theorem dX12_has_170 : decode cX12_has 170 = .ok (.iconst 0, 1) := by decide +kernel
theorem dX12_has_171 : decode cX12_has 171 = .ok (.aload_n 0, 1) := by decide +kernel
theorem dX12_has_172 : decode cX12_has 172 = .ok (.invokevirtual 492, 3) := by decide +kernel
theorem dX12_has_175 : decode cX12_has 175 = .ok (.invokevirtual 489, 3) := by decide +kernel
theorem dX12_has_178 : decode cX12_has 178 = .ok (.ireturn, 1) := by decide +kernel
theorem dX12_has_179 : decode cX12_has 179 = .ok (.iconst 0, 1) := by decide +kernel
theorem dX12_has_180 : decode cX12_has 180 = .ok (.istore_n 3, 1) := by decide +kernel
theorem dX12_has_181 : decode cX12_has 181 = .ok (.iload_n 3, 1) := by decide +kernel
theorem dX12_has_182 : decode cX12_has 182 = .ok (.aload_n 0, 1) := by decide +kernel
theorem dX12_has_183 : decode cX12_has 183 = .ok (.getfield 63, 3) := by decide +kernel
theorem dX12_has_186 : decode cX12_has 186 = .ok (.aload_n 0, 1) := by decide +kernel
theorem dX12_has_187 : decode cX12_has 187 = .ok (.getfield 51, 3) := by decide +kernel
theorem dX12_has_190 : decode cX12_has 190 = .ok (.iaload, 1) := by decide +kernel
theorem dX12_has_191 : decode cX12_has 191 = .ok (.if_icmp .ge 18, 3) := by decide +kernel
theorem dX12_has_194 : decode cX12_has 194 = .ok (.iload_n 2, 1) := by decide +kernel
theorem dX12_has_195 : decode cX12_has 195 = .ok (.aload_n 0, 1) := by decide +kernel
theorem dX12_has_196 : decode cX12_has 196 = .ok (.iload_n 3, 1) := by decide +kernel
theorem dX12_has_197 : decode cX12_has 197 = .ok (.iconst 1, 1) := by decide +kernel
theorem dX12_has_198 : decode cX12_has 198 = .ok (.invokevirtual 482, 3) := by decide +kernel
theorem dX12_has_201 : decode cX12_has 201 = .ok (.iadd, 1) := by decide +kernel
theorem dX12_has_202 : decode cX12_has 202 = .ok (.istore_n 2, 1) := by decide +kernel
theorem dX12_has_203 : decode cX12_has 203 = .ok (.iinc 3 1, 3) := by decide +kernel
theorem dX12_has_206 : decode cX12_has 206 = .ok (.goto (-25), 3) := by decide +kernel
theorem dX12_has_209 : decode cX12_has 209 = .ok (.iload_n 2, 1) := by decide +kernel
theorem dX12_has_210 : decode cX12_has 210 = .ok (.ireturn, 1) := by decide +kernel
theorem dX12_has_211 : decode cX12_has 211 = .ok (.aload_n 0, 1) := by decide +kernel
theorem dX12_has_212 : decode cX12_has 212 = .ok (.getfield 168, 3) := by decide +kernel
theorem dX12_has_215 : decode cX12_has 215 = .ok (.iconst 0, 1) := by decide +kernel
theorem dX12_has_216 : decode cX12_has 216 = .ok (.iaload, 1) := by decide +kernel
theorem dX12_has_217 : decode cX12_has 217 = .ok (.ireturn, 1) := by decide +kernel
theorem dX12_has_218 : decode cX12_has 218 = .ok (.aload_n 0, 1) := by decide +kernel
theorem dX12_has_219 : decode cX12_has 219 = .ok (.getfield 177, 3) := by decide +kernel
theorem dX12_has_222 : decode cX12_has 222 = .ok (.ireturn, 1) := by decide +kernel
theorem dX12_has_223 : decode cX12_has 223 = .ok (.aload_n 0, 1) := by decide +kernel
theorem dX12_has_224 : decode cX12_has 224 = .ok (.getfield 180, 3) := by decide +kernel
theorem dX12_has_227 : decode cX12_has 227 = .ok (.l2i, 1) := by decide +kernel
theorem dX12_has_228 : decode cX12_has 228 = .ok (.ireturn, 1) := by decide +kernel
theorem dX12_has_229 : decode cX12_has 229 = .ok (.iconst (-1), 1) := by decide +kernel
theorem dX12_has_230 : decode cX12_has 230 = .ok (.ireturn, 1) := by decide +kernel
theorem dX12_letter_0 : decode cX12_letter 0 = .ok (.iload_n 1, 1) := by decide +kernel
theorem dX12_letter_1 : decode cX12_letter 1 = .ok (.iconst 0, 1) := by decide +kernel
theorem dX12_letter_2 : decode cX12_letter 2 = .ok (.iconst 2, 1) := by decide +kernel
theorem dX12_letter_3 : decode cX12_letter 3 = .ok (.invokestatic 319, 3) := by decide +kernel
theorem dX12_letter_6 : decode cX12_letter 6 = .ok (.ifCond .eq 31, 3) := by decide +kernel
theorem dX12_letter_9 : decode cX12_letter 9 = .ok (.iload_n 2, 1) := by decide +kernel
theorem dX12_letter_10 : decode cX12_letter 10 = .ok (.iconst 0, 1) := by decide +kernel
theorem dX12_letter_11 : decode cX12_letter 11 = .ok (.aload_n 0, 1) := by decide +kernel
theorem dX12_letter_12 : decode cX12_letter 12 = .ok (.aload_n 0, 1) := by decide +kernel
theorem dX12_letter_13 : decode cX12_letter 13 = .ok (.getfield 51, 3) := by decide +kernel
theorem dX12_letter_16 : decode cX12_letter 16 = .ok (.iload_n 1, 1) := by decide +kernel
theorem dX12_letter_17 : decode cX12_letter 17 = .ok (.invokevirtual 311, 3) := by decide +kernel
theorem dX12_letter_20 : decode cX12_letter 20 = .ok (.iconst 1, 1) := by decide +kernel
theorem dX12_letter_21 : decode cX12_letter 21 = .ok (.isub, 1) := by decide +kernel
theorem dX12_letter_22 : decode cX12_letter 22 = .ok (.invokestatic 319, 3) := by decide +kernel
theorem dX12_letter_25 : decode cX12_letter 25 = .ok (.ifCond .eq 12, 3) := by decide +kernel
theorem dX12_letter_28 : decode cX12_letter 28 = .ok (.iload_n 3, 1) := by decide +kernel
theorem dX12_letter_29 : decode cX12_letter 29 = .ok (.iconst 0, 1) := by decide +kernel
theorem dX12_letter_30 : decode cX12_letter 30 = .ok (.iconst 5, 1) := by decide +kernel
theorem dX12_letter_31 : decode cX12_letter 31 = .ok (.invokestatic 319, 3) := by decide +kernel
theorem dX12_letter_34 : decode cX12_letter 34 = .ok (.ifCond .ne 5, 3) := by decide +kernel
theorem dX12_letter_37 : decode cX12_letter 37 = .ok (.iconst (-1), 1) := by decide +kernel
theorem dX12_letter_38 : decode cX12_letter 38 = .ok (.ireturn, 1) := by decide +kernel
theorem dX12_letter_39 : decode cX12_letter 39 = .ok (.aload_n 0, 1) := by decide +kernel
theorem dX12_letter_40 : decode cX12_letter 40 = .ok (.aload_n 0, 1) := by decide +kernel
theorem dX12_letter_41 : decode cX12_letter 41 = .ok (.getfield 51, 3) := by decide +kernel
theorem dX12_letter_44 : decode cX12_letter 44 = .ok (.iload_n 1, 1) := by decide +kernel
theorem dX12_letter_45 : decode cX12_letter 45 = .ok (.iload_n 2, 1) := by decide +kernel
theorem dX12_letter_46 : decode cX12_letter 46 = .ok (.invokevirtual 315, 3) := by decide +kernel
theorem dX12_letter_49 : decode cX12_letter 49 = .ok (.lstore 4, 2) := by decide +kernel
theorem dX12_letter_51 : decode cX12_letter 51 = .ok (.iconst 0, 1) := by decide +kernel
theorem dX12_letter_52 : decode cX12_letter 52 = .ok (.istore 6, 2) := by decide +kernel
theorem dX12_letter_54 : decode cX12_letter 54 = .ok (.lload 4, 2) := by decide +kernel
theorem dX12_letter_56 : decode cX12_letter 56 = .ok (.lstore 7, 2) := by decide +kernel
theorem dX12_letter_58 : decode cX12_letter 58 = .ok (.lload 7, 2) := by decide +kernel
theorem dX12_letter_60 : decode cX12_letter 60 = .ok (.lconst 0, 1) := by decide +kernel
theorem dX12_letter_61 : decode cX12_letter 61 = .ok (.lcmp, 1) := by decide +kernel
theorem dX12_letter_62 : decode cX12_letter 62 = .ok (.ifCond .le 16, 3) := by decide +kernel
theorem dX12_letter_65 : decode cX12_letter 65 = .ok (.iinc 6 1, 3) := by decide +kernel
theorem dX12_letter_68 : decode cX12_letter 68 = .ok (.lload 7, 2) := by decide +kernel
theorem dX12_letter_70 : decode cX12_letter 70 = .ok (.bipush 8, 2) := by decide +kernel
theorem dX12_letter_72 : decode cX12_letter 72 = .ok (.lshr, 1) := by decide +kernel
theorem dX12_letter_73 : decode cX12_letter 73 = .ok (.lstore 7, 2) := by decide +kernel
theorem dX12_letter_75 : decode cX12_letter 75 = .ok (.goto (-17), 3) := by decide +kernel
theorem dX12_letter_78 : decode cX12_letter 78 = .ok (.iload_n 3, 1) := by decide +kernel
theorem dX12_letter_79 : decode cX12_letter 79 = .ok (.iload 6, 2) := by decide +kernel
theorem dX12_letter_81 : decode cX12_letter 81 = .ok (.if_icmp .lt 7, 3) := by decide +kernel
theorem dX12_letter_84 : decode cX12_letter 84 = .ok (.iconst 0, 1) := by decide +kernel
theorem dX12_letter_85 : decode cX12_letter 85 = .ok (.goto 25, 3) := by decide +kernel
theorem dX12_letter_88 : decode cX12_letter 88 = .ok (.lload 4, 2) := by decide +kernel
theorem dX12_letter_90 : decode cX12_letter 90 = .ok (.bipush 8, 2) := by decide +kernel
theorem dX12_letter_92 : decode cX12_letter 92 = .ok (.iload 6, 2) := by decide +kernel
theorem dX12_letter_94 : decode cX12_letter 94 = .ok (.iconst 1, 1) := by decide +kernel
theorem dX12_letter_95 : decode cX12_letter 95 = .ok (.isub, 1) := by decide +kernel
theorem dX12_letter_96 : decode cX12_letter 96 = .ok (.iload_n 3, 1) := by decide +kernel
theorem dX12_letter_97 : decode cX12_letter 97 = .ok (.isub, 1) := by decide +kernel
theorem dX12_letter_98 : decode cX12_letter 98 = .ok (.imul, 1) := by decide +kernel
theorem dX12_letter_99 : decode cX12_letter 99 = .ok (.lshr, 1) := by decide +kernel
theorem dX12_letter_100 : decode cX12_letter 100 = .ok (.ldc2_w 496, 3) := by decide +kernel
theorem dX12_letter_103 : decode cX12_letter 103 = .ok (.land, 1) := by decide +kernel
theorem dX12_letter_104 : decode cX12_letter 104 = .ok (.l2i, 1) := by decide +kernel
theorem dX12_letter_105 : decode cX12_letter 105 = .ok (.bipush 97, 2) := by decide +kernel
theorem dX12_letter_107 : decode cX12_letter 107 = .ok (.isub, 1) := by decide +kernel
theorem dX12_letter_108 : decode cX12_letter 108 = .ok (.iconst 1, 1) := by decide +kernel
theorem dX12_letter_109 : decode cX12_letter 109 = .ok (.iadd, 1) := by decide +kernel
theorem dX12_letter_110 : decode cX12_letter 110 = .ok (.ireturn, 1) := by decide +kernel
theorem dX12_hollow_0 : decode cX12_hollow 0 = .ok (.aload_n 0, 1) := by decide +kernel
theorem dX12_hollow_1 : decode cX12_hollow 1 = .ok (.iload_n 1, 1) := by decide +kernel
theorem dX12_hollow_2 : decode cX12_hollow 2 = .ok (.invokevirtual 498, 3) := by decide +kernel
theorem dX12_hollow_5 : decode cX12_hollow 5 = .ok (.ifCond .ne 5, 3) := by decide +kernel
theorem dX12_hollow_8 : decode cX12_hollow 8 = .ok (.iconst (-1), 1) := by decide +kernel
theorem dX12_hollow_9 : decode cX12_hollow 9 = .ok (.ireturn, 1) := by decide +kernel
theorem dX12_hollow_10 : decode cX12_hollow 10 = .ok (.iload_n 2, 1) := by decide +kernel
theorem dX12_hollow_11 : decode cX12_hollow 11 = .ok (.tableswitch 115 0 3 #[29, 44, 59, 66], 29) := by decide +kernel
theorem dX12_hollow_40 : decode cX12_hollow 40 = .ok (.aload_n 0, 1) := by decide +kernel
theorem dX12_hollow_41 : decode cX12_hollow 41 = .ok (.getfield 57, 3) := by decide +kernel
theorem dX12_hollow_44 : decode cX12_hollow 44 = .ok (.bipush 8, 2) := by decide +kernel
theorem dX12_hollow_46 : decode cX12_hollow 46 = .ok (.aload_n 0, 1) := by decide +kernel
theorem dX12_hollow_47 : decode cX12_hollow 47 = .ok (.getfield 51, 3) := by decide +kernel
theorem dX12_hollow_50 : decode cX12_hollow 50 = .ok (.imul, 1) := by decide +kernel
theorem dX12_hollow_51 : decode cX12_hollow 51 = .ok (.iload_n 1, 1) := by decide +kernel
theorem dX12_hollow_52 : decode cX12_hollow 52 = .ok (.iadd, 1) := by decide +kernel
theorem dX12_hollow_53 : decode cX12_hollow 53 = .ok (.iaload, 1) := by decide +kernel
theorem dX12_hollow_54 : decode cX12_hollow 54 = .ok (.ireturn, 1) := by decide +kernel
theorem dX12_hollow_55 : decode cX12_hollow 55 = .ok (.aload_n 0, 1) := by decide +kernel
theorem dX12_hollow_56 : decode cX12_hollow 56 = .ok (.getfield 60, 3) := by decide +kernel
theorem dX12_hollow_59 : decode cX12_hollow 59 = .ok (.bipush 8, 2) := by decide +kernel
theorem dX12_hollow_61 : decode cX12_hollow 61 = .ok (.aload_n 0, 1) := by decide +kernel
theorem dX12_hollow_62 : decode cX12_hollow 62 = .ok (.getfield 51, 3) := by decide +kernel
theorem dX12_hollow_65 : decode cX12_hollow 65 = .ok (.imul, 1) := by decide +kernel
theorem dX12_hollow_66 : decode cX12_hollow 66 = .ok (.iload_n 1, 1) := by decide +kernel
theorem dX12_hollow_67 : decode cX12_hollow 67 = .ok (.iadd, 1) := by decide +kernel
theorem dX12_hollow_68 : decode cX12_hollow 68 = .ok (.iaload, 1) := by decide +kernel
theorem dX12_hollow_69 : decode cX12_hollow 69 = .ok (.ireturn, 1) := by decide +kernel
theorem dX12_hollow_70 : decode cX12_hollow 70 = .ok (.aload_n 0, 1) := by decide +kernel
theorem dX12_hollow_71 : decode cX12_hollow 71 = .ok (.iconst 0, 1) := by decide +kernel
theorem dX12_hollow_72 : decode cX12_hollow 72 = .ok (.iload_n 1, 1) := by decide +kernel
theorem dX12_hollow_73 : decode cX12_hollow 73 = .ok (.invokevirtual 460, 3) := by decide +kernel
theorem dX12_hollow_76 : decode cX12_hollow 76 = .ok (.ireturn, 1) := by decide +kernel
theorem dX12_hollow_77 : decode cX12_hollow 77 = .ok (.iconst 0, 1) := by decide +kernel
theorem dX12_hollow_78 : decode cX12_hollow 78 = .ok (.istore_n 3, 1) := by decide +kernel
theorem dX12_hollow_79 : decode cX12_hollow 79 = .ok (.iconst 0, 1) := by decide +kernel
theorem dX12_hollow_80 : decode cX12_hollow 80 = .ok (.istore 4, 2) := by decide +kernel
theorem dX12_hollow_82 : decode cX12_hollow 82 = .ok (.iload 4, 2) := by decide +kernel
theorem dX12_hollow_84 : decode cX12_hollow 84 = .ok (.aload_n 0, 1) := by decide +kernel
theorem dX12_hollow_85 : decode cX12_hollow 85 = .ok (.getfield 66, 3) := by decide +kernel
theorem dX12_hollow_88 : decode cX12_hollow 88 = .ok (.aload_n 0, 1) := by decide +kernel
theorem dX12_hollow_89 : decode cX12_hollow 89 = .ok (.getfield 51, 3) := by decide +kernel
theorem dX12_hollow_92 : decode cX12_hollow 92 = .ok (.iaload, 1) := by decide +kernel
theorem dX12_hollow_93 : decode cX12_hollow 93 = .ok (.if_icmp .ge 31, 3) := by decide +kernel
theorem dX12_hollow_96 : decode cX12_hollow 96 = .ok (.iload_n 3, 1) := by decide +kernel
theorem dX12_hollow_97 : decode cX12_hollow 97 = .ok (.aload_n 0, 1) := by decide +kernel
theorem dX12_hollow_98 : decode cX12_hollow 98 = .ok (.iconst 0, 1) := by decide +kernel
theorem dX12_hollow_99 : decode cX12_hollow 99 = .ok (.iload 4, 2) := by decide +kernel
theorem dX12_hollow_101 : decode cX12_hollow 101 = .ok (.invokevirtual 437, 3) := by decide +kernel
theorem dX12_hollow_104 : decode cX12_hollow 104 = .ok (.iload_n 1, 1) := by decide +kernel
theorem dX12_hollow_105 : decode cX12_hollow 105 = .ok (.if_icmp .ne 10, 3) := by decide +kernel
theorem dX12_hollow_108 : decode cX12_hollow 108 = .ok (.iconst 1, 1) := by decide +kernel
theorem dX12_hollow_109 : decode cX12_hollow 109 = .ok (.iload 4, 2) := by decide +kernel
theorem dX12_hollow_111 : decode cX12_hollow 111 = .ok (.ishl, 1) := by decide +kernel
theorem dX12_hollow_112 : decode cX12_hollow 112 = .ok (.goto 4, 3) := by decide +kernel
theorem dX12_hollow_115 : decode cX12_hollow 115 = .ok (.iconst 0, 1) := by decide +kernel
theorem dX12_hollow_116 : decode cX12_hollow 116 = .ok (.ior, 1) := by decide +kernel
theorem dX12_hollow_117 : decode cX12_hollow 117 = .ok (.istore_n 3, 1) := by decide +kernel
theorem dX12_hollow_118 : decode cX12_hollow 118 = .ok (.iinc 4 1, 3) := by decide +kernel
theorem dX12_hollow_121 : decode cX12_hollow 121 = .ok (.goto (-39), 3) := by decide +kernel
theorem dX12_hollow_124 : decode cX12_hollow 124 = .ok (.iload_n 3, 1) := by decide +kernel
theorem dX12_hollow_125 : decode cX12_hollow 125 = .ok (.ireturn, 1) := by decide +kernel
theorem dX12_hollow_126 : decode cX12_hollow 126 = .ok (.iconst (-1), 1) := by decide +kernel
theorem dX12_hollow_127 : decode cX12_hollow 127 = .ok (.ireturn, 1) := by decide +kernel
theorem dX12_lake_0 : decode cX12_lake 0 = .ok (.aload_n 0, 1) := by decide +kernel
theorem dX12_lake_1 : decode cX12_lake 1 = .ok (.iload_n 1, 1) := by decide +kernel
theorem dX12_lake_2 : decode cX12_lake 2 = .ok (.invokevirtual 501, 3) := by decide +kernel
theorem dX12_lake_5 : decode cX12_lake 5 = .ok (.ifCond .ne 5, 3) := by decide +kernel
theorem dX12_lake_8 : decode cX12_lake 8 = .ok (.iconst (-1), 1) := by decide +kernel
theorem dX12_lake_9 : decode cX12_lake 9 = .ok (.ireturn, 1) := by decide +kernel
theorem dX12_lake_10 : decode cX12_lake 10 = .ok (.iload_n 2, 1) := by decide +kernel
theorem dX12_lake_11 : decode cX12_lake 11 = .ok (.tableswitch 69 0 4 #[33, 40, 47, 54, 61], 33) := by decide +kernel
theorem dX12_lake_44 : decode cX12_lake 44 = .ok (.aload_n 0, 1) := by decide +kernel
theorem dX12_lake_45 : decode cX12_lake 45 = .ok (.iconst 0, 1) := by decide +kernel
theorem dX12_lake_46 : decode cX12_lake 46 = .ok (.iload_n 1, 1) := by decide +kernel
theorem dX12_lake_47 : decode cX12_lake 47 = .ok (.invokevirtual 440, 3) := by decide +kernel
theorem dX12_lake_50 : decode cX12_lake 50 = .ok (.ireturn, 1) := by decide +kernel
theorem dX12_lake_51 : decode cX12_lake 51 = .ok (.aload_n 0, 1) := by decide +kernel
theorem dX12_lake_52 : decode cX12_lake 52 = .ok (.iconst 0, 1) := by decide +kernel
theorem dX12_lake_53 : decode cX12_lake 53 = .ok (.iload_n 1, 1) := by decide +kernel
theorem dX12_lake_54 : decode cX12_lake 54 = .ok (.invokevirtual 437, 3) := by decide +kernel
theorem dX12_lake_57 : decode cX12_lake 57 = .ok (.ireturn, 1) := by decide +kernel
theorem dX12_lake_58 : decode cX12_lake 58 = .ok (.aload_n 0, 1) := by decide +kernel
theorem dX12_lake_59 : decode cX12_lake 59 = .ok (.iconst 0, 1) := by decide +kernel
theorem dX12_lake_60 : decode cX12_lake 60 = .ok (.iload_n 1, 1) := by decide +kernel
theorem dX12_lake_61 : decode cX12_lake 61 = .ok (.invokevirtual 473, 3) := by decide +kernel
theorem dX12_lake_64 : decode cX12_lake 64 = .ok (.ireturn, 1) := by decide +kernel
theorem dX12_lake_65 : decode cX12_lake 65 = .ok (.aload_n 0, 1) := by decide +kernel
theorem dX12_lake_66 : decode cX12_lake 66 = .ok (.iconst 0, 1) := by decide +kernel
theorem dX12_lake_67 : decode cX12_lake 67 = .ok (.iload_n 1, 1) := by decide +kernel
theorem dX12_lake_68 : decode cX12_lake 68 = .ok (.invokevirtual 476, 3) := by decide +kernel
theorem dX12_lake_71 : decode cX12_lake 71 = .ok (.ireturn, 1) := by decide +kernel
theorem dX12_lake_72 : decode cX12_lake 72 = .ok (.aload_n 0, 1) := by decide +kernel
theorem dX12_lake_73 : decode cX12_lake 73 = .ok (.iconst 0, 1) := by decide +kernel
theorem dX12_lake_74 : decode cX12_lake 74 = .ok (.iload_n 1, 1) := by decide +kernel
theorem dX12_lake_75 : decode cX12_lake 75 = .ok (.iconst 0, 1) := by decide +kernel
theorem dX12_lake_76 : decode cX12_lake 76 = .ok (.invokevirtual 466, 3) := by decide +kernel
theorem dX12_lake_79 : decode cX12_lake 79 = .ok (.ireturn, 1) := by decide +kernel
theorem dX12_lake_80 : decode cX12_lake 80 = .ok (.iconst (-1), 1) := by decide +kernel
theorem dX12_lake_81 : decode cX12_lake 81 = .ok (.ireturn, 1) := by decide +kernel
theorem dX12_owner_0 : decode cX12_owner 0 = .ok (.aload_n 0, 1) := by decide +kernel
theorem dX12_owner_1 : decode cX12_owner 1 = .ok (.iload_n 1, 1) := by decide +kernel
theorem dX12_owner_2 : decode cX12_owner 2 = .ok (.invokevirtual 504, 3) := by decide +kernel
theorem dX12_owner_5 : decode cX12_owner 5 = .ok (.ifCond .ne 5, 3) := by decide +kernel
theorem dX12_owner_8 : decode cX12_owner 8 = .ok (.iconst (-1), 1) := by decide +kernel
theorem dX12_owner_9 : decode cX12_owner 9 = .ok (.ireturn, 1) := by decide +kernel
theorem dX12_owner_10 : decode cX12_owner 10 = .ok (.iload_n 2, 1) := by decide +kernel
theorem dX12_owner_11 : decode cX12_owner 11 = .ok (.tableswitch 81 0 4 #[33, 40, 52, 59, 66], 33) := by decide +kernel
theorem dX12_owner_44 : decode cX12_owner 44 = .ok (.aload_n 0, 1) := by decide +kernel
theorem dX12_owner_45 : decode cX12_owner 45 = .ok (.iconst 0, 1) := by decide +kernel
theorem dX12_owner_46 : decode cX12_owner 46 = .ok (.iload_n 1, 1) := by decide +kernel
theorem dX12_owner_47 : decode cX12_owner 47 = .ok (.invokevirtual 486, 3) := by decide +kernel
theorem dX12_owner_50 : decode cX12_owner 50 = .ok (.ireturn, 1) := by decide +kernel
theorem dX12_owner_51 : decode cX12_owner 51 = .ok (.aload_n 0, 1) := by decide +kernel
theorem dX12_owner_52 : decode cX12_owner 52 = .ok (.iconst 0, 1) := by decide +kernel
theorem dX12_owner_53 : decode cX12_owner 53 = .ok (.aload_n 0, 1) := by decide +kernel
theorem dX12_owner_54 : decode cX12_owner 54 = .ok (.iconst 0, 1) := by decide +kernel
theorem dX12_owner_55 : decode cX12_owner 55 = .ok (.iload_n 1, 1) := by decide +kernel
theorem dX12_owner_56 : decode cX12_owner 56 = .ok (.invokevirtual 486, 3) := by decide +kernel
theorem dX12_owner_59 : decode cX12_owner 59 = .ok (.invokevirtual 489, 3) := by decide +kernel
theorem dX12_owner_62 : decode cX12_owner 62 = .ok (.ireturn, 1) := by decide +kernel
theorem dX12_owner_63 : decode cX12_owner 63 = .ok (.aload_n 0, 1) := by decide +kernel
theorem dX12_owner_64 : decode cX12_owner 64 = .ok (.iload_n 1, 1) := by decide +kernel
theorem dX12_owner_65 : decode cX12_owner 65 = .ok (.iconst 1, 1) := by decide +kernel
theorem dX12_owner_66 : decode cX12_owner 66 = .ok (.invokevirtual 482, 3) := by decide +kernel
theorem dX12_owner_69 : decode cX12_owner 69 = .ok (.ireturn, 1) := by decide +kernel
theorem dX12_owner_70 : decode cX12_owner 70 = .ok (.aload_n 0, 1) := by decide +kernel
theorem dX12_owner_71 : decode cX12_owner 71 = .ok (.iload_n 1, 1) := by decide +kernel
theorem dX12_owner_72 : decode cX12_owner 72 = .ok (.iconst 0, 1) := by decide +kernel
theorem dX12_owner_73 : decode cX12_owner 73 = .ok (.invokevirtual 482, 3) := by decide +kernel
theorem dX12_owner_76 : decode cX12_owner 76 = .ok (.ireturn, 1) := by decide +kernel
theorem dX12_owner_77 : decode cX12_owner 77 = .ok (.aload_n 0, 1) := by decide +kernel
theorem dX12_owner_78 : decode cX12_owner 78 = .ok (.iconst 0, 1) := by decide +kernel
theorem dX12_owner_79 : decode cX12_owner 79 = .ok (.iload_n 1, 1) := by decide +kernel
theorem dX12_owner_80 : decode cX12_owner 80 = .ok (.invokevirtual 507, 3) := by decide +kernel
theorem dX12_owner_83 : decode cX12_owner 83 = .ok (.ifCond .eq 7, 3) := by decide +kernel
theorem dX12_owner_86 : decode cX12_owner 86 = .ok (.iconst 1, 1) := by decide +kernel
theorem dX12_owner_87 : decode cX12_owner 87 = .ok (.goto 4, 3) := by decide +kernel
theorem dX12_owner_90 : decode cX12_owner 90 = .ok (.iconst 0, 1) := by decide +kernel
theorem dX12_owner_91 : decode cX12_owner 91 = .ok (.ireturn, 1) := by decide +kernel
theorem dX12_owner_92 : decode cX12_owner 92 = .ok (.iconst (-1), 1) := by decide +kernel
theorem dX12_owner_93 : decode cX12_owner 93 = .ok (.ireturn, 1) := by decide +kernel
theorem dX12_owes_0 : decode cX12_owes 0 = .ok (.aload_n 0, 1) := by decide +kernel
theorem dX12_owes_1 : decode cX12_owes 1 = .ok (.iload_n 1, 1) := by decide +kernel
theorem dX12_owes_2 : decode cX12_owes 2 = .ok (.invokevirtual 504, 3) := by decide +kernel
theorem dX12_owes_5 : decode cX12_owes 5 = .ok (.ifCond .eq 25, 3) := by decide +kernel
theorem dX12_owes_8 : decode cX12_owes 8 = .ok (.aload_n 0, 1) := by decide +kernel
theorem dX12_owes_9 : decode cX12_owes 9 = .ok (.iload_n 2, 1) := by decide +kernel
theorem dX12_owes_10 : decode cX12_owes 10 = .ok (.invokevirtual 504, 3) := by decide +kernel
theorem dX12_owes_13 : decode cX12_owes 13 = .ok (.ifCond .eq 17, 3) := by decide +kernel
theorem dX12_owes_16 : decode cX12_owes 16 = .ok (.iload_n 1, 1) := by decide +kernel
theorem dX12_owes_17 : decode cX12_owes 17 = .ok (.iload_n 2, 1) := by decide +kernel
theorem dX12_owes_18 : decode cX12_owes 18 = .ok (.if_icmp .eq 12, 3) := by decide +kernel
theorem dX12_owes_21 : decode cX12_owes 21 = .ok (.aload_n 0, 1) := by decide +kernel
theorem dX12_owes_22 : decode cX12_owes 22 = .ok (.iload_n 1, 1) := by decide +kernel
theorem dX12_owes_23 : decode cX12_owes 23 = .ok (.iload_n 2, 1) := by decide +kernel
theorem dX12_owes_24 : decode cX12_owes 24 = .ok (.invokevirtual 479, 3) := by decide +kernel
theorem dX12_owes_27 : decode cX12_owes 27 = .ok (.goto 4, 3) := by decide +kernel
theorem dX12_owes_30 : decode cX12_owes 30 = .ok (.iconst (-1), 1) := by decide +kernel
theorem dX12_owes_31 : decode cX12_owes 31 = .ok (.ireturn, 1) := by decide +kernel
theorem dX12_isAhead_0 : decode cX12_isAhead 0 = .ok (.iload_n 1, 1) := by decide +kernel
theorem dX12_isAhead_1 : decode cX12_isAhead 1 = .ok (.iload_n 2, 1) := by decide +kernel
theorem dX12_isAhead_2 : decode cX12_isAhead 2 = .ok (.bipush 100, 2) := by decide +kernel
theorem dX12_isAhead_4 : decode cX12_isAhead 4 = .ok (.invokestatic 319, 3) := by decide +kernel
theorem dX12_isAhead_7 : decode cX12_isAhead 7 = .ok (.ifCond .eq 21, 3) := by decide +kernel
theorem dX12_isAhead_10 : decode cX12_isAhead 10 = .ok (.aload_n 0, 1) := by decide +kernel
theorem dX12_isAhead_11 : decode cX12_isAhead 11 = .ok (.getfield 153, 3) := by decide +kernel
theorem dX12_isAhead_14 : decode cX12_isAhead 14 = .ok (.iconst 0, 1) := by decide +kernel
theorem dX12_isAhead_15 : decode cX12_isAhead 15 = .ok (.iaload, 1) := by decide +kernel
theorem dX12_isAhead_16 : decode cX12_isAhead 16 = .ok (.sipush 9999, 3) := by decide +kernel
theorem dX12_isAhead_19 : decode cX12_isAhead 19 = .ok (.iload_n 1, 1) := by decide +kernel
theorem dX12_isAhead_20 : decode cX12_isAhead 20 = .ok (.isub, 1) := by decide +kernel
theorem dX12_isAhead_21 : decode cX12_isAhead 21 = .ok (.if_icmp .gt 7, 3) := by decide +kernel
theorem dX12_isAhead_24 : decode cX12_isAhead 24 = .ok (.iconst 1, 1) := by decide +kernel
theorem dX12_isAhead_25 : decode cX12_isAhead 25 = .ok (.goto 4, 3) := by decide +kernel
theorem dX12_isAhead_28 : decode cX12_isAhead 28 = .ok (.iconst 0, 1) := by decide +kernel
theorem dX12_isAhead_29 : decode cX12_isAhead 29 = .ok (.ireturn, 1) := by decide +kernel
theorem dX12_later_0 : decode cX12_later 0 = .ok (.aload_n 0, 1) := by decide +kernel
theorem dX12_later_1 : decode cX12_later 1 = .ok (.iload_n 1, 1) := by decide +kernel
theorem dX12_later_2 : decode cX12_later 2 = .ok (.iconst 0, 1) := by decide +kernel
theorem dX12_later_3 : decode cX12_later 3 = .ok (.invokevirtual 510, 3) := by decide +kernel
theorem dX12_later_6 : decode cX12_later 6 = .ok (.ifCond .eq 16, 3) := by decide +kernel
theorem dX12_later_9 : decode cX12_later 9 = .ok (.iload_n 2, 1) := by decide +kernel
theorem dX12_later_10 : decode cX12_later 10 = .ok (.iconst (-1), 1) := by decide +kernel
theorem dX12_later_11 : decode cX12_later 11 = .ok (.if_icmp .eq 13, 3) := by decide +kernel
theorem dX12_later_14 : decode cX12_later 14 = .ok (.aload_n 0, 1) := by decide +kernel
theorem dX12_later_15 : decode cX12_later 15 = .ok (.iload_n 2, 1) := by decide +kernel
theorem dX12_later_16 : decode cX12_later 16 = .ok (.invokevirtual 501, 3) := by decide +kernel
theorem dX12_later_19 : decode cX12_later 19 = .ok (.ifCond .ne 5, 3) := by decide +kernel
theorem dX12_later_22 : decode cX12_later 22 = .ok (.iconst (-1), 1) := by decide +kernel
theorem dX12_later_23 : decode cX12_later 23 = .ok (.ireturn, 1) := by decide +kernel
theorem dX12_later_24 : decode cX12_later 24 = .ok (.aload_n 0, 1) := by decide +kernel
theorem dX12_later_25 : decode cX12_later 25 = .ok (.iconst 1, 1) := by decide +kernel
theorem dX12_later_26 : decode cX12_later 26 = .ok (.iconst 0, 1) := by decide +kernel
theorem dX12_later_27 : decode cX12_later 27 = .ok (.invokevirtual 418, 3) := by decide +kernel
theorem dX12_later_30 : decode cX12_later 30 = .ok (.iconst 0, 1) := by decide +kernel
theorem dX12_later_31 : decode cX12_later 31 = .ok (.istore_n 3, 1) := by decide +kernel
theorem dX12_later_32 : decode cX12_later 32 = .ok (.iload_n 3, 1) := by decide +kernel
theorem dX12_later_33 : decode cX12_later 33 = .ok (.iload_n 1, 1) := by decide +kernel
theorem dX12_later_34 : decode cX12_later 34 = .ok (.if_icmp .ge 16, 3) := by decide +kernel
theorem dX12_later_37 : decode cX12_later 37 = .ok (.aload_n 0, 1) := by decide +kernel
theorem dX12_later_38 : decode cX12_later 38 = .ok (.iconst 1, 1) := by decide +kernel
theorem dX12_later_39 : decode cX12_later 39 = .ok (.iconst 0, 1) := by decide +kernel
theorem dX12_later_40 : decode cX12_later 40 = .ok (.invokevirtual 513, 3) := by decide +kernel
theorem dX12_later_43 : decode cX12_later 43 = .ok (.pop, 1) := by decide +kernel
theorem dX12_later_44 : decode cX12_later 44 = .ok (.iinc 3 1, 3) := by decide +kernel
theorem dX12_later_47 : decode cX12_later 47 = .ok (.goto (-15), 3) := by decide +kernel
theorem dX12_later_50 : decode cX12_later 50 = .ok (.iload_n 2, 1) := by decide +kernel
theorem dX12_later_51 : decode cX12_later 51 = .ok (.iconst (-1), 1) := by decide +kernel
theorem dX12_later_52 : decode cX12_later 52 = .ok (.if_icmp .ne 15, 3) := by decide +kernel
theorem dX12_later_55 : decode cX12_later 55 = .ok (.aload_n 0, 1) := by decide +kernel
theorem dX12_later_56 : decode cX12_later 56 = .ok (.iconst 1, 1) := by decide +kernel
theorem dX12_later_57 : decode cX12_later 57 = .ok (.aload_n 0, 1) := by decide +kernel
theorem dX12_later_58 : decode cX12_later 58 = .ok (.invokevirtual 492, 3) := by decide +kernel
theorem dX12_later_61 : decode cX12_later 61 = .ok (.invokevirtual 489, 3) := by decide +kernel
theorem dX12_later_64 : decode cX12_later 64 = .ok (.goto 9, 3) := by decide +kernel
theorem dX12_later_67 : decode cX12_later 67 = .ok (.aload_n 0, 1) := by decide +kernel
theorem dX12_later_68 : decode cX12_later 68 = .ok (.iconst 1, 1) := by decide +kernel
theorem dX12_later_69 : decode cX12_later 69 = .ok (.iload_n 2, 1) := by decide +kernel
theorem dX12_later_70 : decode cX12_later 70 = .ok (.invokevirtual 440, 3) := by decide +kernel
theorem dX12_later_73 : decode cX12_later 73 = .ok (.ireturn, 1) := by decide +kernel
theorem dX12_broke_0 : decode cX12_broke 0 = .ok (.aload_n 0, 1) := by decide +kernel
theorem dX12_broke_1 : decode cX12_broke 1 = .ok (.iload_n 1, 1) := by decide +kernel
theorem dX12_broke_2 : decode cX12_broke 2 = .ok (.invokevirtual 504, 3) := by decide +kernel
theorem dX12_broke_5 : decode cX12_broke 5 = .ok (.ifCond .ne 5, 3) := by decide +kernel
theorem dX12_broke_8 : decode cX12_broke 8 = .ok (.iconst (-1), 1) := by decide +kernel
theorem dX12_broke_9 : decode cX12_broke 9 = .ok (.ireturn, 1) := by decide +kernel
theorem dX12_broke_10 : decode cX12_broke 10 = .ok (.aload_n 0, 1) := by decide +kernel
theorem dX12_broke_11 : decode cX12_broke 11 = .ok (.iconst 1, 1) := by decide +kernel
theorem dX12_broke_12 : decode cX12_broke 12 = .ok (.iconst 0, 1) := by decide +kernel
theorem dX12_broke_13 : decode cX12_broke 13 = .ok (.invokevirtual 418, 3) := by decide +kernel
theorem dX12_broke_16 : decode cX12_broke 16 = .ok (.iconst 0, 1) := by decide +kernel
theorem dX12_broke_17 : decode cX12_broke 17 = .ok (.istore_n 2, 1) := by decide +kernel
theorem dX12_broke_18 : decode cX12_broke 18 = .ok (.aload_n 0, 1) := by decide +kernel
theorem dX12_broke_19 : decode cX12_broke 19 = .ok (.iload_n 2, 1) := by decide +kernel
theorem dX12_broke_20 : decode cX12_broke 20 = .ok (.iconst 0, 1) := by decide +kernel
theorem dX12_broke_21 : decode cX12_broke 21 = .ok (.invokevirtual 510, 3) := by decide +kernel
theorem dX12_broke_24 : decode cX12_broke 24 = .ok (.ifCond .eq 27, 3) := by decide +kernel
theorem dX12_broke_27 : decode cX12_broke 27 = .ok (.aload_n 0, 1) := by decide +kernel
theorem dX12_broke_28 : decode cX12_broke 28 = .ok (.iconst 1, 1) := by decide +kernel
theorem dX12_broke_29 : decode cX12_broke 29 = .ok (.iload_n 1, 1) := by decide +kernel
theorem dX12_broke_30 : decode cX12_broke 30 = .ok (.invokevirtual 507, 3) := by decide +kernel
theorem dX12_broke_33 : decode cX12_broke 33 = .ok (.ifCond .eq 5, 3) := by decide +kernel
theorem dX12_broke_36 : decode cX12_broke 36 = .ok (.iload_n 2, 1) := by decide +kernel
theorem dX12_broke_37 : decode cX12_broke 37 = .ok (.ireturn, 1) := by decide +kernel
theorem dX12_broke_38 : decode cX12_broke 38 = .ok (.aload_n 0, 1) := by decide +kernel
theorem dX12_broke_39 : decode cX12_broke 39 = .ok (.iconst 1, 1) := by decide +kernel
theorem dX12_broke_40 : decode cX12_broke 40 = .ok (.iconst 0, 1) := by decide +kernel
theorem dX12_broke_41 : decode cX12_broke 41 = .ok (.invokevirtual 513, 3) := by decide +kernel
theorem dX12_broke_44 : decode cX12_broke 44 = .ok (.pop, 1) := by decide +kernel
theorem dX12_broke_45 : decode cX12_broke 45 = .ok (.iinc 2 1, 3) := by decide +kernel
theorem dX12_broke_48 : decode cX12_broke 48 = .ok (.goto (-30), 3) := by decide +kernel
theorem dX12_broke_51 : decode cX12_broke 51 = .ok (.iconst (-1), 1) := by decide +kernel
theorem dX12_broke_52 : decode cX12_broke 52 = .ok (.ireturn, 1) := by decide +kernel
theorem dX12_spend_0 : decode cX12_spend 0 = .ok (.aload_n 0, 1) := by decide +kernel
theorem dX12_spend_1 : decode cX12_spend 1 = .ok (.iload_n 1, 1) := by decide +kernel
theorem dX12_spend_2 : decode cX12_spend 2 = .ok (.invokevirtual 501, 3) := by decide +kernel
theorem dX12_spend_5 : decode cX12_spend 5 = .ok (.ifCond .eq 21, 3) := by decide +kernel
theorem dX12_spend_8 : decode cX12_spend 8 = .ok (.aload_n 0, 1) := by decide +kernel
theorem dX12_spend_9 : decode cX12_spend 9 = .ok (.iconst 0, 1) := by decide +kernel
theorem dX12_spend_10 : decode cX12_spend 10 = .ok (.iload_n 1, 1) := by decide +kernel
theorem dX12_spend_11 : decode cX12_spend 11 = .ok (.invokevirtual 440, 3) := by decide +kernel
theorem dX12_spend_14 : decode cX12_spend 14 = .ok (.ifCond .eq 12, 3) := by decide +kernel
theorem dX12_spend_17 : decode cX12_spend 17 = .ok (.iload_n 2, 1) := by decide +kernel
theorem dX12_spend_18 : decode cX12_spend 18 = .ok (.iconst 0, 1) := by decide +kernel
theorem dX12_spend_19 : decode cX12_spend 19 = .ok (.iconst 1, 1) := by decide +kernel
theorem dX12_spend_20 : decode cX12_spend 20 = .ok (.invokestatic 319, 3) := by decide +kernel
theorem dX12_spend_23 : decode cX12_spend 23 = .ok (.ifCond .ne 5, 3) := by decide +kernel
theorem dX12_spend_26 : decode cX12_spend 26 = .ok (.iconst (-1), 1) := by decide +kernel
theorem dX12_spend_27 : decode cX12_spend 27 = .ok (.ireturn, 1) := by decide +kernel
theorem dX12_spend_28 : decode cX12_spend 28 = .ok (.aload_n 0, 1) := by decide +kernel
theorem dX12_spend_29 : decode cX12_spend 29 = .ok (.iconst 1, 1) := by decide +kernel
theorem dX12_spend_30 : decode cX12_spend 30 = .ok (.iconst 0, 1) := by decide +kernel
theorem dX12_spend_31 : decode cX12_spend 31 = .ok (.invokevirtual 418, 3) := by decide +kernel
theorem dX12_spend_34 : decode cX12_spend 34 = .ok (.iconst 0, 1) := by decide +kernel
theorem dX12_spend_35 : decode cX12_spend 35 = .ok (.istore_n 3, 1) := by decide +kernel
theorem dX12_spend_36 : decode cX12_spend 36 = .ok (.iconst (-1), 1) := by decide +kernel
theorem dX12_spend_37 : decode cX12_spend 37 = .ok (.istore 4, 2) := by decide +kernel
theorem dX12_spend_39 : decode cX12_spend 39 = .ok (.iconst 0, 1) := by decide +kernel
theorem dX12_spend_40 : decode cX12_spend 40 = .ok (.istore 5, 2) := by decide +kernel
theorem dX12_spend_42 : decode cX12_spend 42 = .ok (.aload_n 0, 1) := by decide +kernel
theorem dX12_spend_43 : decode cX12_spend 43 = .ok (.iload 5, 2) := by decide +kernel
theorem dX12_spend_45 : decode cX12_spend 45 = .ok (.iconst 0, 1) := by decide +kernel
theorem dX12_spend_46 : decode cX12_spend 46 = .ok (.invokevirtual 510, 3) := by decide +kernel
theorem dX12_spend_49 : decode cX12_spend 49 = .ok (.ifCond .eq 38, 3) := by decide +kernel
theorem dX12_spend_52 : decode cX12_spend 52 = .ok (.aload_n 0, 1) := by decide +kernel
theorem dX12_spend_53 : decode cX12_spend 53 = .ok (.iconst 1, 1) := by decide +kernel
theorem dX12_spend_54 : decode cX12_spend 54 = .ok (.iload_n 1, 1) := by decide +kernel
theorem dX12_spend_55 : decode cX12_spend 55 = .ok (.invokevirtual 476, 3) := by decide +kernel
theorem dX12_spend_58 : decode cX12_spend 58 = .ok (.iload 4, 2) := by decide +kernel
theorem dX12_spend_60 : decode cX12_spend 60 = .ok (.if_icmp .le 14, 3) := by decide +kernel
theorem dX12_spend_63 : decode cX12_spend 63 = .ok (.aload_n 0, 1) := by decide +kernel
theorem dX12_spend_64 : decode cX12_spend 64 = .ok (.iconst 1, 1) := by decide +kernel
theorem dX12_spend_65 : decode cX12_spend 65 = .ok (.iload_n 1, 1) := by decide +kernel
theorem dX12_spend_66 : decode cX12_spend 66 = .ok (.invokevirtual 476, 3) := by decide +kernel
theorem dX12_spend_69 : decode cX12_spend 69 = .ok (.istore 4, 2) := by decide +kernel
theorem dX12_spend_71 : decode cX12_spend 71 = .ok (.iload 5, 2) := by decide +kernel
theorem dX12_spend_73 : decode cX12_spend 73 = .ok (.istore_n 3, 1) := by decide +kernel
theorem dX12_spend_74 : decode cX12_spend 74 = .ok (.aload_n 0, 1) := by decide +kernel
theorem dX12_spend_75 : decode cX12_spend 75 = .ok (.iconst 1, 1) := by decide +kernel
theorem dX12_spend_76 : decode cX12_spend 76 = .ok (.iconst 0, 1) := by decide +kernel
theorem dX12_spend_77 : decode cX12_spend 77 = .ok (.invokevirtual 513, 3) := by decide +kernel
theorem dX12_spend_80 : decode cX12_spend 80 = .ok (.pop, 1) := by decide +kernel
theorem dX12_spend_81 : decode cX12_spend 81 = .ok (.iinc 5 1, 3) := by decide +kernel
theorem dX12_spend_84 : decode cX12_spend 84 = .ok (.goto (-42), 3) := by decide +kernel
theorem dX12_spend_87 : decode cX12_spend 87 = .ok (.iload_n 2, 1) := by decide +kernel
theorem dX12_spend_88 : decode cX12_spend 88 = .ok (.ifCond .ne 7, 3) := by decide +kernel
theorem dX12_spend_91 : decode cX12_spend 91 = .ok (.iload_n 3, 1) := by decide +kernel
theorem dX12_spend_92 : decode cX12_spend 92 = .ok (.goto 5, 3) := by decide +kernel
theorem dX12_spend_95 : decode cX12_spend 95 = .ok (.iload 4, 2) := by decide +kernel
theorem dX12_spend_97 : decode cX12_spend 97 = .ok (.ireturn, 1) := by decide +kernel
theorem dX12_price_0 : decode cX12_price 0 = .ok (.aload_n 0, 1) := by decide +kernel
theorem dX12_price_1 : decode cX12_price 1 = .ok (.iload_n 1, 1) := by decide +kernel
theorem dX12_price_2 : decode cX12_price 2 = .ok (.invokevirtual 504, 3) := by decide +kernel
theorem dX12_price_5 : decode cX12_price 5 = .ok (.ifCond .eq 23, 3) := by decide +kernel
theorem dX12_price_8 : decode cX12_price 8 = .ok (.iload_n 2, 1) := by decide +kernel
theorem dX12_price_9 : decode cX12_price 9 = .ok (.iconst 0, 1) := by decide +kernel
theorem dX12_price_10 : decode cX12_price 10 = .ok (.sipush 9999, 3) := by decide +kernel
theorem dX12_price_13 : decode cX12_price 13 = .ok (.invokestatic 319, 3) := by decide +kernel
theorem dX12_price_16 : decode cX12_price 16 = .ok (.ifCond .eq 12, 3) := by decide +kernel
theorem dX12_price_19 : decode cX12_price 19 = .ok (.iload_n 3, 1) := by decide +kernel
theorem dX12_price_20 : decode cX12_price 20 = .ok (.iconst 0, 1) := by decide +kernel
theorem dX12_price_21 : decode cX12_price 21 = .ok (.iconst 1, 1) := by decide +kernel
theorem dX12_price_22 : decode cX12_price 22 = .ok (.invokestatic 319, 3) := by decide +kernel
theorem dX12_price_25 : decode cX12_price 25 = .ok (.ifCond .ne 5, 3) := by decide +kernel
theorem dX12_price_28 : decode cX12_price 28 = .ok (.iconst (-1), 1) := by decide +kernel
theorem dX12_price_29 : decode cX12_price 29 = .ok (.ireturn, 1) := by decide +kernel
theorem dX12_price_30 : decode cX12_price 30 = .ok (.aload_n 0, 1) := by decide +kernel
theorem dX12_price_31 : decode cX12_price 31 = .ok (.iconst 0, 1) := by decide +kernel
theorem dX12_price_32 : decode cX12_price 32 = .ok (.iload_n 1, 1) := by decide +kernel
theorem dX12_price_33 : decode cX12_price 33 = .ok (.invokevirtual 486, 3) := by decide +kernel
theorem dX12_price_36 : decode cX12_price 36 = .ok (.istore 4, 2) := by decide +kernel
theorem dX12_price_38 : decode cX12_price 38 = .ok (.iconst (-1), 1) := by decide +kernel
theorem dX12_price_39 : decode cX12_price 39 = .ok (.istore 5, 2) := by decide +kernel
theorem dX12_price_41 : decode cX12_price 41 = .ok (.ldc_w 516, 3) := by decide +kernel
theorem dX12_price_44 : decode cX12_price 44 = .ok (.istore 6, 2) := by decide +kernel
theorem dX12_price_46 : decode cX12_price 46 = .ok (.iconst 0, 1) := by decide +kernel
theorem dX12_price_47 : decode cX12_price 47 = .ok (.istore 7, 2) := by decide +kernel
theorem dX12_price_49 : decode cX12_price 49 = .ok (.iload 7, 2) := by decide +kernel
theorem dX12_price_51 : decode cX12_price 51 = .ok (.iload 4, 2) := by decide +kernel
theorem dX12_price_53 : decode cX12_price 53 = .ok (.if_icmp .gt 76, 3) := by decide +kernel
theorem dX12_price_56 : decode cX12_price 56 = .ok (.iload 7, 2) := by decide +kernel
theorem dX12_price_58 : decode cX12_price 58 = .ok (.iload 4, 2) := by decide +kernel
theorem dX12_price_60 : decode cX12_price 60 = .ok (.iconst (-1), 1) := by decide +kernel
theorem dX12_price_61 : decode cX12_price 61 = .ok (.ixor, 1) := by decide +kernel
theorem dX12_price_62 : decode cX12_price 62 = .ok (.iand, 1) := by decide +kernel
theorem dX12_price_63 : decode cX12_price 63 = .ok (.ifCond .eq 6, 3) := by decide +kernel
theorem dX12_price_66 : decode cX12_price 66 = .ok (.goto 57, 3) := by decide +kernel
theorem dX12_price_69 : decode cX12_price 69 = .ok (.aload_n 0, 1) := by decide +kernel
theorem dX12_price_70 : decode cX12_price 70 = .ok (.iconst 0, 1) := by decide +kernel
theorem dX12_price_71 : decode cX12_price 71 = .ok (.iload 7, 2) := by decide +kernel
theorem dX12_price_73 : decode cX12_price 73 = .ok (.invokevirtual 489, 3) := by decide +kernel
theorem dX12_price_76 : decode cX12_price 76 = .ok (.iload_n 2, 1) := by decide +kernel
theorem dX12_price_77 : decode cX12_price 77 = .ok (.isub, 1) := by decide +kernel
theorem dX12_price_78 : decode cX12_price 78 = .ok (.istore 8, 2) := by decide +kernel
theorem dX12_price_80 : decode cX12_price 80 = .ok (.iload 8, 2) := by decide +kernel
theorem dX12_price_82 : decode cX12_price 82 = .ok (.ifCond .lt 41, 3) := by decide +kernel
theorem dX12_price_85 : decode cX12_price 85 = .ok (.iload 8, 2) := by decide +kernel
theorem dX12_price_87 : decode cX12_price 87 = .ok (.iload 6, 2) := by decide +kernel
theorem dX12_price_89 : decode cX12_price 89 = .ok (.if_icmp .gt 34, 3) := by decide +kernel
theorem dX12_price_92 : decode cX12_price 92 = .ok (.iload 8, 2) := by decide +kernel
theorem dX12_price_94 : decode cX12_price 94 = .ok (.iload 6, 2) := by decide +kernel
theorem dX12_price_96 : decode cX12_price 96 = .ok (.if_icmp .ne 19, 3) := by decide +kernel
theorem dX12_price_99 : decode cX12_price 99 = .ok (.iload 7, 2) := by decide +kernel
theorem dX12_price_101 : decode cX12_price 101 = .ok (.invokestatic 517, 3) := by decide +kernel
theorem dX12_price_104 : decode cX12_price 104 = .ok (.iload 5, 2) := by decide +kernel
theorem dX12_price_106 : decode cX12_price 106 = .ok (.invokestatic 517, 3) := by decide +kernel
theorem dX12_price_109 : decode cX12_price 109 = .ok (.if_icmp .lt 6, 3) := by decide +kernel
theorem dX12_price_112 : decode cX12_price 112 = .ok (.goto 11, 3) := by decide +kernel
theorem dX12_price_115 : decode cX12_price 115 = .ok (.iload 8, 2) := by decide +kernel
theorem dX12_price_117 : decode cX12_price 117 = .ok (.istore 6, 2) := by decide +kernel
theorem dX12_price_119 : decode cX12_price 119 = .ok (.iload 7, 2) := by decide +kernel
theorem dX12_price_121 : decode cX12_price 121 = .ok (.istore 5, 2) := by decide +kernel
theorem dX12_price_123 : decode cX12_price 123 = .ok (.iinc 7 1, 3) := by decide +kernel
theorem dX12_price_126 : decode cX12_price 126 = .ok (.goto (-77), 3) := by decide +kernel
theorem dX12_price_129 : decode cX12_price 129 = .ok (.iload 5, 2) := by decide +kernel
theorem dX12_price_131 : decode cX12_price 131 = .ok (.iconst (-1), 1) := by decide +kernel
theorem dX12_price_132 : decode cX12_price 132 = .ok (.if_icmp .eq 7, 3) := by decide +kernel
theorem dX12_price_135 : decode cX12_price 135 = .ok (.iload_n 3, 1) := by decide +kernel
theorem dX12_price_136 : decode cX12_price 136 = .ok (.ifCond .ne 8, 3) := by decide +kernel
theorem dX12_price_139 : decode cX12_price 139 = .ok (.iload 5, 2) := by decide +kernel
theorem dX12_price_141 : decode cX12_price 141 = .ok (.goto 5, 3) := by decide +kernel
theorem dX12_price_144 : decode cX12_price 144 = .ok (.iload 6, 2) := by decide +kernel
theorem dX12_price_146 : decode cX12_price 146 = .ok (.ireturn, 1) := by decide +kernel
theorem dX12_astray_0 : decode cX12_astray 0 = .ok (.iconst 0, 1) := by decide +kernel
theorem dX12_astray_1 : decode cX12_astray 1 = .ok (.istore_n 2, 1) := by decide +kernel
theorem dX12_astray_2 : decode cX12_astray 2 = .ok (.iconst 0, 1) := by decide +kernel
theorem dX12_astray_3 : decode cX12_astray 3 = .ok (.istore_n 3, 1) := by decide +kernel
theorem dX12_astray_4 : decode cX12_astray 4 = .ok (.iload_n 3, 1) := by decide +kernel
theorem dX12_astray_5 : decode cX12_astray 5 = .ok (.aload_n 0, 1) := by decide +kernel
theorem dX12_astray_6 : decode cX12_astray 6 = .ok (.getfield 66, 3) := by decide +kernel
theorem dX12_astray_9 : decode cX12_astray 9 = .ok (.aload_n 0, 1) := by decide +kernel
theorem dX12_astray_10 : decode cX12_astray 10 = .ok (.getfield 51, 3) := by decide +kernel
theorem dX12_astray_13 : decode cX12_astray 13 = .ok (.iaload, 1) := by decide +kernel
theorem dX12_astray_14 : decode cX12_astray 14 = .ok (.if_icmp .ge 42, 3) := by decide +kernel
theorem dX12_astray_17 : decode cX12_astray 17 = .ok (.iload_n 2, 1) := by decide +kernel
theorem dX12_astray_18 : decode cX12_astray 18 = .ok (.aload_n 0, 1) := by decide +kernel
theorem dX12_astray_19 : decode cX12_astray 19 = .ok (.getfield 192, 3) := by decide +kernel
theorem dX12_astray_22 : decode cX12_astray 22 = .ok (.iload_n 3, 1) := by decide +kernel
theorem dX12_astray_23 : decode cX12_astray 23 = .ok (.iaload, 1) := by decide +kernel
theorem dX12_astray_24 : decode cX12_astray 24 = .ok (.iconst (-1), 1) := by decide +kernel
theorem dX12_astray_25 : decode cX12_astray 25 = .ok (.if_icmp .eq 22, 3) := by decide +kernel
theorem dX12_astray_28 : decode cX12_astray 28 = .ok (.aload_n 0, 1) := by decide +kernel
theorem dX12_astray_29 : decode cX12_astray 29 = .ok (.iload_n 1, 1) := by decide +kernel
theorem dX12_astray_30 : decode cX12_astray 30 = .ok (.iload_n 3, 1) := by decide +kernel
theorem dX12_astray_31 : decode cX12_astray 31 = .ok (.invokevirtual 437, 3) := by decide +kernel
theorem dX12_astray_34 : decode cX12_astray 34 = .ok (.aload_n 0, 1) := by decide +kernel
theorem dX12_astray_35 : decode cX12_astray 35 = .ok (.getfield 192, 3) := by decide +kernel
theorem dX12_astray_38 : decode cX12_astray 38 = .ok (.iload_n 3, 1) := by decide +kernel
theorem dX12_astray_39 : decode cX12_astray 39 = .ok (.iaload, 1) := by decide +kernel
theorem dX12_astray_40 : decode cX12_astray 40 = .ok (.if_icmp .eq 7, 3) := by decide +kernel
theorem dX12_astray_43 : decode cX12_astray 43 = .ok (.iconst 1, 1) := by decide +kernel
theorem dX12_astray_44 : decode cX12_astray 44 = .ok (.goto 4, 3) := by decide +kernel
theorem dX12_astray_47 : decode cX12_astray 47 = .ok (.iconst 0, 1) := by decide +kernel
theorem dX12_astray_48 : decode cX12_astray 48 = .ok (.iadd, 1) := by decide +kernel
theorem dX12_astray_49 : decode cX12_astray 49 = .ok (.istore_n 2, 1) := by decide +kernel
theorem dX12_astray_50 : decode cX12_astray 50 = .ok (.iinc 3 1, 3) := by decide +kernel
theorem dX12_astray_53 : decode cX12_astray 53 = .ok (.goto (-49), 3) := by decide +kernel
theorem dX12_astray_56 : decode cX12_astray 56 = .ok (.iload_n 2, 1) := by decide +kernel
theorem dX12_astray_57 : decode cX12_astray 57 = .ok (.ireturn, 1) := by decide +kernel
theorem dX12_movesNext_0 : decode cX12_movesNext 0 = .ok (.iconst 1, 1) := by decide +kernel
theorem dX12_movesNext_1 : decode cX12_movesNext 1 = .ok (.iload_n 1, 1) := by decide +kernel
theorem dX12_movesNext_2 : decode cX12_movesNext 2 = .ok (.iadd, 1) := by decide +kernel
theorem dX12_movesNext_3 : decode cX12_movesNext 3 = .ok (.istore_n 3, 1) := by decide +kernel
theorem dX12_movesNext_4 : decode cX12_movesNext 4 = .ok (.aload_n 0, 1) := by decide +kernel
theorem dX12_movesNext_5 : decode cX12_movesNext 5 = .ok (.iload_n 3, 1) := by decide +kernel
theorem dX12_movesNext_6 : decode cX12_movesNext 6 = .ok (.invokevirtual 520, 3) := by decide +kernel
theorem dX12_movesNext_9 : decode cX12_movesNext 9 = .ok (.istore 4, 2) := by decide +kernel
theorem dX12_movesNext_11 : decode cX12_movesNext 11 = .ok (.aload_n 0, 1) := by decide +kernel
theorem dX12_movesNext_12 : decode cX12_movesNext 12 = .ok (.getfield 195, 3) := by decide +kernel
theorem dX12_movesNext_15 : decode cX12_movesNext 15 = .ok (.iload_n 1, 1) := by decide +kernel
theorem dX12_movesNext_16 : decode cX12_movesNext 16 = .ok (.dup2, 1) := by decide +kernel
theorem dX12_movesNext_17 : decode cX12_movesNext 17 = .ok (.iaload, 1) := by decide +kernel
theorem dX12_movesNext_18 : decode cX12_movesNext 18 = .ok (.iconst 1, 1) := by decide +kernel
theorem dX12_movesNext_19 : decode cX12_movesNext 19 = .ok (.iadd, 1) := by decide +kernel
theorem dX12_movesNext_20 : decode cX12_movesNext 20 = .ok (.iastore, 1) := by decide +kernel
theorem dX12_movesNext_21 : decode cX12_movesNext 21 = .ok (.aload_n 0, 1) := by decide +kernel
theorem dX12_movesNext_22 : decode cX12_movesNext 22 = .ok (.getfield 195, 3) := by decide +kernel
theorem dX12_movesNext_25 : decode cX12_movesNext 25 = .ok (.iload_n 1, 1) := by decide +kernel
theorem dX12_movesNext_26 : decode cX12_movesNext 26 = .ok (.iaload, 1) := by decide +kernel
theorem dX12_movesNext_27 : decode cX12_movesNext 27 = .ok (.bipush 8, 2) := by decide +kernel
theorem dX12_movesNext_29 : decode cX12_movesNext 29 = .ok (.aload_n 0, 1) := by decide +kernel
theorem dX12_movesNext_30 : decode cX12_movesNext 30 = .ok (.getfield 66, 3) := by decide +kernel
theorem dX12_movesNext_33 : decode cX12_movesNext 33 = .ok (.aload_n 0, 1) := by decide +kernel
theorem dX12_movesNext_34 : decode cX12_movesNext 34 = .ok (.getfield 51, 3) := by decide +kernel
theorem dX12_movesNext_37 : decode cX12_movesNext 37 = .ok (.iaload, 1) := by decide +kernel
theorem dX12_movesNext_38 : decode cX12_movesNext 38 = .ok (.imul, 1) := by decide +kernel
theorem dX12_movesNext_39 : decode cX12_movesNext 39 = .ok (.if_icmp .ge 122, 3) := by decide +kernel
theorem dX12_movesNext_42 : decode cX12_movesNext 42 = .ok (.aload_n 0, 1) := by decide +kernel
theorem dX12_movesNext_43 : decode cX12_movesNext 43 = .ok (.getfield 195, 3) := by decide +kernel
theorem dX12_movesNext_46 : decode cX12_movesNext 46 = .ok (.iload_n 1, 1) := by decide +kernel
theorem dX12_movesNext_47 : decode cX12_movesNext 47 = .ok (.iaload, 1) := by decide +kernel
theorem dX12_movesNext_48 : decode cX12_movesNext 48 = .ok (.bipush 8, 2) := by decide +kernel
theorem dX12_movesNext_50 : decode cX12_movesNext 50 = .ok (.idiv, 1) := by decide +kernel
theorem dX12_movesNext_51 : decode cX12_movesNext 51 = .ok (.istore 5, 2) := by decide +kernel
theorem dX12_movesNext_53 : decode cX12_movesNext 53 = .ok (.aload_n 0, 1) := by decide +kernel
theorem dX12_movesNext_54 : decode cX12_movesNext 54 = .ok (.getfield 195, 3) := by decide +kernel
theorem dX12_movesNext_57 : decode cX12_movesNext 57 = .ok (.iload_n 1, 1) := by decide +kernel
theorem dX12_movesNext_58 : decode cX12_movesNext 58 = .ok (.iaload, 1) := by decide +kernel
theorem dX12_movesNext_59 : decode cX12_movesNext 59 = .ok (.bipush 8, 2) := by decide +kernel
theorem dX12_movesNext_61 : decode cX12_movesNext 61 = .ok (.irem, 1) := by decide +kernel
theorem dX12_movesNext_62 : decode cX12_movesNext 62 = .ok (.istore 6, 2) := by decide +kernel
theorem dX12_movesNext_64 : decode cX12_movesNext 64 = .ok (.aload_n 0, 1) := by decide +kernel
theorem dX12_movesNext_65 : decode cX12_movesNext 65 = .ok (.iload 6, 2) := by decide +kernel
theorem dX12_movesNext_67 : decode cX12_movesNext 67 = .ok (.invokevirtual 498, 3) := by decide +kernel
theorem dX12_movesNext_70 : decode cX12_movesNext 70 = .ok (.ifCond .eq 78, 3) := by decide +kernel
theorem dX12_movesNext_73 : decode cX12_movesNext 73 = .ok (.iload 4, 2) := by decide +kernel
theorem dX12_movesNext_75 : decode cX12_movesNext 75 = .ok (.iload_n 2, 1) := by decide +kernel
theorem dX12_movesNext_76 : decode cX12_movesNext 76 = .ok (.if_icmp .ne 18, 3) := by decide +kernel
theorem dX12_movesNext_79 : decode cX12_movesNext 79 = .ok (.aload_n 0, 1) := by decide +kernel
theorem dX12_movesNext_80 : decode cX12_movesNext 80 = .ok (.getfield 192, 3) := by decide +kernel
theorem dX12_movesNext_83 : decode cX12_movesNext 83 = .ok (.iload 5, 2) := by decide +kernel
theorem dX12_movesNext_85 : decode cX12_movesNext 85 = .ok (.iaload, 1) := by decide +kernel
theorem dX12_movesNext_86 : decode cX12_movesNext 86 = .ok (.iload 6, 2) := by decide +kernel
theorem dX12_movesNext_88 : decode cX12_movesNext 88 = .ok (.if_icmp .eq 6, 3) := by decide +kernel
theorem dX12_movesNext_91 : decode cX12_movesNext 91 = .ok (.goto 57, 3) := by decide +kernel
theorem dX12_movesNext_94 : decode cX12_movesNext 94 = .ok (.aload_n 0, 1) := by decide +kernel
theorem dX12_movesNext_95 : decode cX12_movesNext 95 = .ok (.iload_n 3, 1) := by decide +kernel
theorem dX12_movesNext_96 : decode cX12_movesNext 96 = .ok (.iload 5, 2) := by decide +kernel
theorem dX12_movesNext_98 : decode cX12_movesNext 98 = .ok (.iload 6, 2) := by decide +kernel
theorem dX12_movesNext_100 : decode cX12_movesNext 100 = .ok (.invokevirtual 523, 3) := by decide +kernel
theorem dX12_movesNext_103 : decode cX12_movesNext 103 = .ok (.ifCond .ne 6, 3) := by decide +kernel
theorem dX12_movesNext_106 : decode cX12_movesNext 106 = .ok (.goto 42, 3) := by decide +kernel
theorem dX12_movesNext_109 : decode cX12_movesNext 109 = .ok (.aload_n 0, 1) := by decide +kernel
theorem dX12_movesNext_110 : decode cX12_movesNext 110 = .ok (.iload_n 3, 1) := by decide +kernel
theorem dX12_movesNext_111 : decode cX12_movesNext 111 = .ok (.iconst 1, 1) := by decide +kernel
theorem dX12_movesNext_112 : decode cX12_movesNext 112 = .ok (.iadd, 1) := by decide +kernel
theorem dX12_movesNext_113 : decode cX12_movesNext 113 = .ok (.iload_n 3, 1) := by decide +kernel
theorem dX12_movesNext_114 : decode cX12_movesNext 114 = .ok (.invokevirtual 418, 3) := by decide +kernel
theorem dX12_movesNext_117 : decode cX12_movesNext 117 = .ok (.aload_n 0, 1) := by decide +kernel
theorem dX12_movesNext_118 : decode cX12_movesNext 118 = .ok (.getfield 159, 3) := by decide +kernel
theorem dX12_movesNext_121 : decode cX12_movesNext 121 = .ok (.bipush 8, 2) := by decide +kernel
theorem dX12_movesNext_123 : decode cX12_movesNext 123 = .ok (.iload_n 3, 1) := by decide +kernel
theorem dX12_movesNext_124 : decode cX12_movesNext 124 = .ok (.iconst 1, 1) := by decide +kernel
theorem dX12_movesNext_125 : decode cX12_movesNext 125 = .ok (.iadd, 1) := by decide +kernel
theorem dX12_movesNext_126 : decode cX12_movesNext 126 = .ok (.imul, 1) := by decide +kernel
theorem dX12_movesNext_127 : decode cX12_movesNext 127 = .ok (.iload 5, 2) := by decide +kernel
theorem dX12_movesNext_129 : decode cX12_movesNext 129 = .ok (.iadd, 1) := by decide +kernel
theorem dX12_movesNext_130 : decode cX12_movesNext 130 = .ok (.iload 6, 2) := by decide +kernel
theorem dX12_movesNext_132 : decode cX12_movesNext 132 = .ok (.iastore, 1) := by decide +kernel
theorem dX12_movesNext_133 : decode cX12_movesNext 133 = .ok (.aload_n 0, 1) := by decide +kernel
theorem dX12_movesNext_134 : decode cX12_movesNext 134 = .ok (.iload_n 3, 1) := by decide +kernel
theorem dX12_movesNext_135 : decode cX12_movesNext 135 = .ok (.iconst 1, 1) := by decide +kernel
theorem dX12_movesNext_136 : decode cX12_movesNext 136 = .ok (.iadd, 1) := by decide +kernel
theorem dX12_movesNext_137 : decode cX12_movesNext 137 = .ok (.invokevirtual 520, 3) := by decide +kernel
theorem dX12_movesNext_140 : decode cX12_movesNext 140 = .ok (.iload_n 2, 1) := by decide +kernel
theorem dX12_movesNext_141 : decode cX12_movesNext 141 = .ok (.iconst 1, 1) := by decide +kernel
theorem dX12_movesNext_142 : decode cX12_movesNext 142 = .ok (.isub, 1) := by decide +kernel
theorem dX12_movesNext_143 : decode cX12_movesNext 143 = .ok (.if_icmp .gt 5, 3) := by decide +kernel
theorem dX12_movesNext_146 : decode cX12_movesNext 146 = .ok (.iconst 1, 1) := by decide +kernel
theorem dX12_movesNext_147 : decode cX12_movesNext 147 = .ok (.ireturn, 1) := by decide +kernel
theorem dX12_movesNext_148 : decode cX12_movesNext 148 = .ok (.aload_n 0, 1) := by decide +kernel
theorem dX12_movesNext_149 : decode cX12_movesNext 149 = .ok (.getfield 195, 3) := by decide +kernel
theorem dX12_movesNext_152 : decode cX12_movesNext 152 = .ok (.iload_n 1, 1) := by decide +kernel
theorem dX12_movesNext_153 : decode cX12_movesNext 153 = .ok (.dup2, 1) := by decide +kernel
theorem dX12_movesNext_154 : decode cX12_movesNext 154 = .ok (.iaload, 1) := by decide +kernel
theorem dX12_movesNext_155 : decode cX12_movesNext 155 = .ok (.iconst 1, 1) := by decide +kernel
theorem dX12_movesNext_156 : decode cX12_movesNext 156 = .ok (.iadd, 1) := by decide +kernel
theorem dX12_movesNext_157 : decode cX12_movesNext 157 = .ok (.iastore, 1) := by decide +kernel
theorem dX12_movesNext_158 : decode cX12_movesNext 158 = .ok (.goto (-137), 3) := by decide +kernel
theorem dX12_movesNext_161 : decode cX12_movesNext 161 = .ok (.iconst 0, 1) := by decide +kernel
theorem dX12_movesNext_162 : decode cX12_movesNext 162 = .ok (.ireturn, 1) := by decide +kernel
theorem dX12_isEnough_0 : decode cX12_isEnough 0 = .ok (.aload_n 0, 1) := by decide +kernel
theorem dX12_isEnough_1 : decode cX12_isEnough 1 = .ok (.iconst 1, 1) := by decide +kernel
theorem dX12_isEnough_2 : decode cX12_isEnough 2 = .ok (.iconst 0, 1) := by decide +kernel
theorem dX12_isEnough_3 : decode cX12_isEnough 3 = .ok (.invokevirtual 418, 3) := by decide +kernel
theorem dX12_isEnough_6 : decode cX12_isEnough 6 = .ok (.aload_n 0, 1) := by decide +kernel
theorem dX12_isEnough_7 : decode cX12_isEnough 7 = .ok (.iconst 1, 1) := by decide +kernel
theorem dX12_isEnough_8 : decode cX12_isEnough 8 = .ok (.invokevirtual 520, 3) := by decide +kernel
theorem dX12_isEnough_11 : decode cX12_isEnough 11 = .ok (.iload_n 1, 1) := by decide +kernel
theorem dX12_isEnough_12 : decode cX12_isEnough 12 = .ok (.if_icmp .le 5, 3) := by decide +kernel
theorem dX12_isEnough_15 : decode cX12_isEnough 15 = .ok (.iconst 0, 1) := by decide +kernel
theorem dX12_isEnough_16 : decode cX12_isEnough 16 = .ok (.ireturn, 1) := by decide +kernel
theorem dX12_isEnough_17 : decode cX12_isEnough 17 = .ok (.iload_n 1, 1) := by decide +kernel
theorem dX12_isEnough_18 : decode cX12_isEnough 18 = .ok (.ifCond .ne 5, 3) := by decide +kernel
theorem dX12_isEnough_21 : decode cX12_isEnough 21 = .ok (.iconst 1, 1) := by decide +kernel
theorem dX12_isEnough_22 : decode cX12_isEnough 22 = .ok (.ireturn, 1) := by decide +kernel
theorem dX12_isEnough_23 : decode cX12_isEnough 23 = .ok (.iconst 0, 1) := by decide +kernel
theorem dX12_isEnough_24 : decode cX12_isEnough 24 = .ok (.istore_n 2, 1) := by decide +kernel
theorem dX12_isEnough_25 : decode cX12_isEnough 25 = .ok (.aload_n 0, 1) := by decide +kernel
theorem dX12_isEnough_26 : decode cX12_isEnough 26 = .ok (.getfield 195, 3) := by decide +kernel
theorem dX12_isEnough_29 : decode cX12_isEnough 29 = .ok (.iconst 0, 1) := by decide +kernel
theorem dX12_isEnough_30 : decode cX12_isEnough 30 = .ok (.iconst (-1), 1) := by decide +kernel
theorem dX12_isEnough_31 : decode cX12_isEnough 31 = .ok (.iastore, 1) := by decide +kernel
theorem dX12_isEnough_32 : decode cX12_isEnough 32 = .ok (.iload_n 2, 1) := by decide +kernel
theorem dX12_isEnough_33 : decode cX12_isEnough 33 = .ok (.ifCond .lt 42, 3) := by decide +kernel
theorem dX12_isEnough_36 : decode cX12_isEnough 36 = .ok (.aload_n 0, 1) := by decide +kernel
theorem dX12_isEnough_37 : decode cX12_isEnough 37 = .ok (.iload_n 2, 1) := by decide +kernel
theorem dX12_isEnough_38 : decode cX12_isEnough 38 = .ok (.iload_n 1, 1) := by decide +kernel
theorem dX12_isEnough_39 : decode cX12_isEnough 39 = .ok (.iload_n 2, 1) := by decide +kernel
theorem dX12_isEnough_40 : decode cX12_isEnough 40 = .ok (.isub, 1) := by decide +kernel
theorem dX12_isEnough_41 : decode cX12_isEnough 41 = .ok (.invokevirtual 526, 3) := by decide +kernel
theorem dX12_isEnough_44 : decode cX12_isEnough 44 = .ok (.ifCond .ne 9, 3) := by decide +kernel
theorem dX12_isEnough_47 : decode cX12_isEnough 47 = .ok (.iinc 2 (-1), 3) := by decide +kernel
theorem dX12_isEnough_50 : decode cX12_isEnough 50 = .ok (.goto (-18), 3) := by decide +kernel
theorem dX12_isEnough_53 : decode cX12_isEnough 53 = .ok (.iload_n 2, 1) := by decide +kernel
theorem dX12_isEnough_54 : decode cX12_isEnough 54 = .ok (.iconst 1, 1) := by decide +kernel
theorem dX12_isEnough_55 : decode cX12_isEnough 55 = .ok (.iadd, 1) := by decide +kernel
theorem dX12_isEnough_56 : decode cX12_isEnough 56 = .ok (.iload_n 1, 1) := by decide +kernel
theorem dX12_isEnough_57 : decode cX12_isEnough 57 = .ok (.if_icmp .ne 5, 3) := by decide +kernel
theorem dX12_isEnough_60 : decode cX12_isEnough 60 = .ok (.iconst 1, 1) := by decide +kernel
theorem dX12_isEnough_61 : decode cX12_isEnough 61 = .ok (.ireturn, 1) := by decide +kernel
theorem dX12_isEnough_62 : decode cX12_isEnough 62 = .ok (.iinc 2 1, 3) := by decide +kernel
theorem dX12_isEnough_65 : decode cX12_isEnough 65 = .ok (.aload_n 0, 1) := by decide +kernel
theorem dX12_isEnough_66 : decode cX12_isEnough 66 = .ok (.getfield 195, 3) := by decide +kernel
theorem dX12_isEnough_69 : decode cX12_isEnough 69 = .ok (.iload_n 2, 1) := by decide +kernel
theorem dX12_isEnough_70 : decode cX12_isEnough 70 = .ok (.iconst (-1), 1) := by decide +kernel
theorem dX12_isEnough_71 : decode cX12_isEnough 71 = .ok (.iastore, 1) := by decide +kernel
theorem dX12_isEnough_72 : decode cX12_isEnough 72 = .ok (.goto (-40), 3) := by decide +kernel
theorem dX12_isEnough_75 : decode cX12_isEnough 75 = .ok (.iconst 0, 1) := by decide +kernel
theorem dX12_isEnough_76 : decode cX12_isEnough 76 = .ok (.ireturn, 1) := by decide +kernel
theorem dX12_moves_0 : decode cX12_moves 0 = .ok (.aload_n 0, 1) := by decide +kernel
theorem dX12_moves_1 : decode cX12_moves 1 = .ok (.getfield 13, 3) := by decide +kernel
theorem dX12_moves_4 : decode cX12_moves 4 = .ok (.istore_n 1, 1) := by decide +kernel
theorem dX12_moves_5 : decode cX12_moves 5 = .ok (.aload_n 0, 1) := by decide +kernel
theorem dX12_moves_6 : decode cX12_moves 6 = .ok (.iconst 0, 1) := by decide +kernel
theorem dX12_moves_7 : decode cX12_moves 7 = .ok (.putfield 13, 3) := by decide +kernel
theorem dX12_moves_10 : decode cX12_moves 10 = .ok (.iload_n 1, 1) := by decide +kernel
theorem dX12_moves_11 : decode cX12_moves 11 = .ok (.ifCond .le 19, 3) := by decide +kernel
theorem dX12_moves_14 : decode cX12_moves 14 = .ok (.iload_n 1, 1) := by decide +kernel
theorem dX12_moves_15 : decode cX12_moves 15 = .ok (.iconst 2, 1) := by decide +kernel
theorem dX12_moves_16 : decode cX12_moves 16 = .ok (.irem, 1) := by decide +kernel
theorem dX12_moves_17 : decode cX12_moves 17 = .ok (.ifCond .ne 13, 3) := by decide +kernel
theorem dX12_moves_20 : decode cX12_moves 20 = .ok (.iload_n 1, 1) := by decide +kernel
theorem dX12_moves_21 : decode cX12_moves 21 = .ok (.bipush 16, 2) := by decide +kernel
theorem dX12_moves_23 : decode cX12_moves 23 = .ok (.if_icmp .gt 7, 3) := by decide +kernel
theorem dX12_moves_26 : decode cX12_moves 26 = .ok (.iconst 1, 1) := by decide +kernel
theorem dX12_moves_27 : decode cX12_moves 27 = .ok (.goto 4, 3) := by decide +kernel
theorem dX12_moves_30 : decode cX12_moves 30 = .ok (.iconst 0, 1) := by decide +kernel
theorem dX12_moves_31 : decode cX12_moves 31 = .ok (.istore_n 2, 1) := by decide +kernel
theorem dX12_moves_32 : decode cX12_moves 32 = .ok (.iconst 0, 1) := by decide +kernel
theorem dX12_moves_33 : decode cX12_moves 33 = .ok (.istore_n 3, 1) := by decide +kernel
theorem dX12_moves_34 : decode cX12_moves 34 = .ok (.iload_n 3, 1) := by decide +kernel
theorem dX12_moves_35 : decode cX12_moves 35 = .ok (.bipush 8, 2) := by decide +kernel
theorem dX12_moves_37 : decode cX12_moves 37 = .ok (.if_icmp .ge 16, 3) := by decide +kernel
theorem dX12_moves_40 : decode cX12_moves 40 = .ok (.aload_n 0, 1) := by decide +kernel
theorem dX12_moves_41 : decode cX12_moves 41 = .ok (.getfield 192, 3) := by decide +kernel
theorem dX12_moves_44 : decode cX12_moves 44 = .ok (.iload_n 3, 1) := by decide +kernel
theorem dX12_moves_45 : decode cX12_moves 45 = .ok (.iconst (-1), 1) := by decide +kernel
theorem dX12_moves_46 : decode cX12_moves 46 = .ok (.iastore, 1) := by decide +kernel
theorem dX12_moves_47 : decode cX12_moves 47 = .ok (.iinc 3 1, 3) := by decide +kernel
theorem dX12_moves_50 : decode cX12_moves 50 = .ok (.goto (-16), 3) := by decide +kernel
theorem dX12_moves_53 : decode cX12_moves 53 = .ok (.iconst 0, 1) := by decide +kernel
theorem dX12_moves_54 : decode cX12_moves 54 = .ok (.istore_n 3, 1) := by decide +kernel
theorem dX12_moves_55 : decode cX12_moves 55 = .ok (.iload_n 3, 1) := by decide +kernel
theorem dX12_moves_56 : decode cX12_moves 56 = .ok (.iload_n 1, 1) := by decide +kernel
theorem dX12_moves_57 : decode cX12_moves 57 = .ok (.if_icmp .ge 109, 3) := by decide +kernel
theorem dX12_moves_60 : decode cX12_moves 60 = .ok (.iload_n 2, 1) := by decide +kernel
theorem dX12_moves_61 : decode cX12_moves 61 = .ok (.ifCond .eq 105, 3) := by decide +kernel
theorem dX12_moves_64 : decode cX12_moves 64 = .ok (.aload_n 0, 1) := by decide +kernel
theorem dX12_moves_65 : decode cX12_moves 65 = .ok (.aload_n 0, 1) := by decide +kernel
theorem dX12_moves_66 : decode cX12_moves 66 = .ok (.getfield 7, 3) := by decide +kernel
theorem dX12_moves_69 : decode cX12_moves 69 = .ok (.iload_n 3, 1) := by decide +kernel
theorem dX12_moves_70 : decode cX12_moves 70 = .ok (.iaload, 1) := by decide +kernel
theorem dX12_moves_71 : decode cX12_moves 71 = .ok (.invokevirtual 501, 3) := by decide +kernel
theorem dX12_moves_74 : decode cX12_moves 74 = .ok (.ifCond .eq 22, 3) := by decide +kernel
theorem dX12_moves_77 : decode cX12_moves 77 = .ok (.aload_n 0, 1) := by decide +kernel
theorem dX12_moves_78 : decode cX12_moves 78 = .ok (.aload_n 0, 1) := by decide +kernel
theorem dX12_moves_79 : decode cX12_moves 79 = .ok (.getfield 7, 3) := by decide +kernel
theorem dX12_moves_82 : decode cX12_moves 82 = .ok (.iload_n 3, 1) := by decide +kernel
theorem dX12_moves_83 : decode cX12_moves 83 = .ok (.iconst 1, 1) := by decide +kernel
theorem dX12_moves_84 : decode cX12_moves 84 = .ok (.iadd, 1) := by decide +kernel
theorem dX12_moves_85 : decode cX12_moves 85 = .ok (.iaload, 1) := by decide +kernel
theorem dX12_moves_86 : decode cX12_moves 86 = .ok (.invokevirtual 498, 3) := by decide +kernel
theorem dX12_moves_89 : decode cX12_moves 89 = .ok (.ifCond .eq 7, 3) := by decide +kernel
theorem dX12_moves_92 : decode cX12_moves 92 = .ok (.iconst 1, 1) := by decide +kernel
theorem dX12_moves_93 : decode cX12_moves 93 = .ok (.goto 4, 3) := by decide +kernel
theorem dX12_moves_96 : decode cX12_moves 96 = .ok (.iconst 0, 1) := by decide +kernel
theorem dX12_moves_97 : decode cX12_moves 97 = .ok (.istore_n 2, 1) := by decide +kernel
theorem dX12_moves_98 : decode cX12_moves 98 = .ok (.iload_n 2, 1) := by decide +kernel
theorem dX12_moves_99 : decode cX12_moves 99 = .ok (.ifCond .eq 36, 3) := by decide +kernel
theorem dX12_moves_102 : decode cX12_moves 102 = .ok (.aload_n 0, 1) := by decide +kernel
theorem dX12_moves_103 : decode cX12_moves 103 = .ok (.iconst 0, 1) := by decide +kernel
theorem dX12_moves_104 : decode cX12_moves 104 = .ok (.aload_n 0, 1) := by decide +kernel
theorem dX12_moves_105 : decode cX12_moves 105 = .ok (.getfield 7, 3) := by decide +kernel
theorem dX12_moves_108 : decode cX12_moves 108 = .ok (.iload_n 3, 1) := by decide +kernel
theorem dX12_moves_109 : decode cX12_moves 109 = .ok (.iaload, 1) := by decide +kernel
theorem dX12_moves_110 : decode cX12_moves 110 = .ok (.invokevirtual 440, 3) := by decide +kernel
theorem dX12_moves_113 : decode cX12_moves 113 = .ok (.ifCond .le 22, 3) := by decide +kernel
theorem dX12_moves_116 : decode cX12_moves 116 = .ok (.aload_n 0, 1) := by decide +kernel
theorem dX12_moves_117 : decode cX12_moves 117 = .ok (.getfield 192, 3) := by decide +kernel
theorem dX12_moves_120 : decode cX12_moves 120 = .ok (.aload_n 0, 1) := by decide +kernel
theorem dX12_moves_121 : decode cX12_moves 121 = .ok (.getfield 7, 3) := by decide +kernel
theorem dX12_moves_124 : decode cX12_moves 124 = .ok (.iload_n 3, 1) := by decide +kernel
theorem dX12_moves_125 : decode cX12_moves 125 = .ok (.iaload, 1) := by decide +kernel
theorem dX12_moves_126 : decode cX12_moves 126 = .ok (.iaload, 1) := by decide +kernel
theorem dX12_moves_127 : decode cX12_moves 127 = .ok (.iconst (-1), 1) := by decide +kernel
theorem dX12_moves_128 : decode cX12_moves 128 = .ok (.if_icmp .ne 7, 3) := by decide +kernel
theorem dX12_moves_131 : decode cX12_moves 131 = .ok (.iconst 1, 1) := by decide +kernel
theorem dX12_moves_132 : decode cX12_moves 132 = .ok (.goto 4, 3) := by decide +kernel
theorem dX12_moves_135 : decode cX12_moves 135 = .ok (.iconst 0, 1) := by decide +kernel
theorem dX12_moves_136 : decode cX12_moves 136 = .ok (.istore_n 2, 1) := by decide +kernel
theorem dX12_moves_137 : decode cX12_moves 137 = .ok (.iload_n 2, 1) := by decide +kernel
theorem dX12_moves_138 : decode cX12_moves 138 = .ok (.ifCond .eq 22, 3) := by decide +kernel
theorem dX12_moves_141 : decode cX12_moves 141 = .ok (.aload_n 0, 1) := by decide +kernel
theorem dX12_moves_142 : decode cX12_moves 142 = .ok (.getfield 192, 3) := by decide +kernel
theorem dX12_moves_145 : decode cX12_moves 145 = .ok (.aload_n 0, 1) := by decide +kernel
theorem dX12_moves_146 : decode cX12_moves 146 = .ok (.getfield 7, 3) := by decide +kernel
theorem dX12_moves_149 : decode cX12_moves 149 = .ok (.iload_n 3, 1) := by decide +kernel
theorem dX12_moves_150 : decode cX12_moves 150 = .ok (.iaload, 1) := by decide +kernel
theorem dX12_moves_151 : decode cX12_moves 151 = .ok (.aload_n 0, 1) := by decide +kernel
theorem dX12_moves_152 : decode cX12_moves 152 = .ok (.getfield 7, 3) := by decide +kernel
theorem dX12_moves_155 : decode cX12_moves 155 = .ok (.iload_n 3, 1) := by decide +kernel
theorem dX12_moves_156 : decode cX12_moves 156 = .ok (.iconst 1, 1) := by decide +kernel
theorem dX12_moves_157 : decode cX12_moves 157 = .ok (.iadd, 1) := by decide +kernel
theorem dX12_moves_158 : decode cX12_moves 158 = .ok (.iaload, 1) := by decide +kernel
theorem dX12_moves_159 : decode cX12_moves 159 = .ok (.iastore, 1) := by decide +kernel
theorem dX12_moves_160 : decode cX12_moves 160 = .ok (.iinc 3 2, 3) := by decide +kernel
theorem dX12_moves_163 : decode cX12_moves 163 = .ok (.goto (-108), 3) := by decide +kernel
theorem dX12_moves_166 : decode cX12_moves 166 = .ok (.iload_n 2, 1) := by decide +kernel
theorem dX12_moves_167 : decode cX12_moves 167 = .ok (.ifCond .ne 9, 3) := by decide +kernel
theorem dX12_moves_170 : decode cX12_moves 170 = .ok (.aload_n 0, 1) := by decide +kernel
theorem dX12_moves_171 : decode cX12_moves 171 = .ok (.iconst 5, 1) := by decide +kernel
theorem dX12_moves_172 : decode cX12_moves 172 = .ok (.invokevirtual 229, 3) := by decide +kernel
theorem dX12_moves_175 : decode cX12_moves 175 = .ok (.ireturn, 1) := by decide +kernel
theorem dX12_moves_176 : decode cX12_moves 176 = .ok (.iconst 0, 1) := by decide +kernel
theorem dX12_moves_177 : decode cX12_moves 177 = .ok (.istore_n 3, 1) := by decide +kernel
theorem dX12_moves_178 : decode cX12_moves 178 = .ok (.iload_n 3, 1) := by decide +kernel
theorem dX12_moves_179 : decode cX12_moves 179 = .ok (.iconst 4, 1) := by decide +kernel
theorem dX12_moves_180 : decode cX12_moves 180 = .ok (.if_icmp .gt 19, 3) := by decide +kernel
theorem dX12_moves_183 : decode cX12_moves 183 = .ok (.aload_n 0, 1) := by decide +kernel
theorem dX12_moves_184 : decode cX12_moves 184 = .ok (.iload_n 3, 1) := by decide +kernel
theorem dX12_moves_185 : decode cX12_moves 185 = .ok (.invokevirtual 529, 3) := by decide +kernel
theorem dX12_moves_188 : decode cX12_moves 188 = .ok (.ifCond .eq 5, 3) := by decide +kernel
theorem dX12_moves_191 : decode cX12_moves 191 = .ok (.iload_n 3, 1) := by decide +kernel
theorem dX12_moves_192 : decode cX12_moves 192 = .ok (.ireturn, 1) := by decide +kernel
theorem dX12_moves_193 : decode cX12_moves 193 = .ok (.iinc 3 1, 3) := by decide +kernel
theorem dX12_moves_196 : decode cX12_moves 196 = .ok (.goto (-18), 3) := by decide +kernel
theorem dX12_moves_199 : decode cX12_moves 199 = .ok (.iconst (-1), 1) := by decide +kernel
theorem dX12_moves_200 : decode cX12_moves 200 = .ok (.ireturn, 1) := by decide +kernel
theorem dX12_lowest_0 : decode cX12_lowest 0 = .ok (.iconst 0, 1) := by decide +kernel
theorem dX12_lowest_1 : decode cX12_lowest 1 = .ok (.istore_n 1, 1) := by decide +kernel
theorem dX12_lowest_2 : decode cX12_lowest 2 = .ok (.iload_n 0, 1) := by decide +kernel
theorem dX12_lowest_3 : decode cX12_lowest 3 = .ok (.iload_n 1, 1) := by decide +kernel
theorem dX12_lowest_4 : decode cX12_lowest 4 = .ok (.invokestatic 357, 3) := by decide +kernel
theorem dX12_lowest_7 : decode cX12_lowest 7 = .ok (.ifCond .ne 9, 3) := by decide +kernel
theorem dX12_lowest_10 : decode cX12_lowest 10 = .ok (.iinc 1 1, 3) := by decide +kernel
theorem dX12_lowest_13 : decode cX12_lowest 13 = .ok (.goto (-11), 3) := by decide +kernel
theorem dX12_lowest_16 : decode cX12_lowest 16 = .ok (.iload_n 1, 1) := by decide +kernel
theorem dX12_lowest_17 : decode cX12_lowest 17 = .ok (.ireturn, 1) := by decide +kernel
theorem dX12_pack_0 : decode cX12_pack 0 = .ok (.aload_n 0, 1) := by decide +kernel
theorem dX12_pack_1 : decode cX12_pack 1 = .ok (.iload_n 1, 1) := by decide +kernel
theorem dX12_pack_2 : decode cX12_pack 2 = .ok (.invokevirtual 504, 3) := by decide +kernel
theorem dX12_pack_5 : decode cX12_pack 5 = .ok (.ifCond .eq 12, 3) := by decide +kernel
theorem dX12_pack_8 : decode cX12_pack 8 = .ok (.iload_n 2, 1) := by decide +kernel
theorem dX12_pack_9 : decode cX12_pack 9 = .ok (.iconst 0, 1) := by decide +kernel
theorem dX12_pack_10 : decode cX12_pack 10 = .ok (.iconst 1, 1) := by decide +kernel
theorem dX12_pack_11 : decode cX12_pack 11 = .ok (.invokestatic 319, 3) := by decide +kernel
theorem dX12_pack_14 : decode cX12_pack 14 = .ok (.ifCond .ne 5, 3) := by decide +kernel
theorem dX12_pack_17 : decode cX12_pack 17 = .ok (.iconst (-1), 1) := by decide +kernel
theorem dX12_pack_18 : decode cX12_pack 18 = .ok (.ireturn, 1) := by decide +kernel
theorem dX12_pack_19 : decode cX12_pack 19 = .ok (.aload_n 0, 1) := by decide +kernel
theorem dX12_pack_20 : decode cX12_pack 20 = .ok (.iconst 0, 1) := by decide +kernel
theorem dX12_pack_21 : decode cX12_pack 21 = .ok (.iload_n 1, 1) := by decide +kernel
theorem dX12_pack_22 : decode cX12_pack 22 = .ok (.invokevirtual 486, 3) := by decide +kernel
theorem dX12_pack_25 : decode cX12_pack 25 = .ok (.istore_n 3, 1) := by decide +kernel
theorem dX12_pack_26 : decode cX12_pack 26 = .ok (.iconst 0, 1) := by decide +kernel
theorem dX12_pack_27 : decode cX12_pack 27 = .ok (.istore 4, 2) := by decide +kernel
theorem dX12_pack_29 : decode cX12_pack 29 = .ok (.iload 4, 2) := by decide +kernel
theorem dX12_pack_31 : decode cX12_pack 31 = .ok (.sipush 256, 3) := by decide +kernel
theorem dX12_pack_34 : decode cX12_pack 34 = .ok (.if_icmp .ge 71, 3) := by decide +kernel
theorem dX12_pack_37 : decode cX12_pack 37 = .ok (.aload_n 0, 1) := by decide +kernel
theorem dX12_pack_38 : decode cX12_pack 38 = .ok (.getfield 202, 3) := by decide +kernel
theorem dX12_pack_41 : decode cX12_pack 41 = .ok (.iload 4, 2) := by decide +kernel
theorem dX12_pack_43 : decode cX12_pack 43 = .ok (.iconst 0, 1) := by decide +kernel
theorem dX12_pack_44 : decode cX12_pack 44 = .ok (.iastore, 1) := by decide +kernel
theorem dX12_pack_45 : decode cX12_pack 45 = .ok (.iconst 0, 1) := by decide +kernel
theorem dX12_pack_46 : decode cX12_pack 46 = .ok (.istore 5, 2) := by decide +kernel
theorem dX12_pack_48 : decode cX12_pack 48 = .ok (.iload 5, 2) := by decide +kernel
theorem dX12_pack_50 : decode cX12_pack 50 = .ok (.aload_n 0, 1) := by decide +kernel
theorem dX12_pack_51 : decode cX12_pack 51 = .ok (.getfield 66, 3) := by decide +kernel
theorem dX12_pack_54 : decode cX12_pack 54 = .ok (.aload_n 0, 1) := by decide +kernel
theorem dX12_pack_55 : decode cX12_pack 55 = .ok (.getfield 51, 3) := by decide +kernel
theorem dX12_pack_58 : decode cX12_pack 58 = .ok (.iaload, 1) := by decide +kernel
theorem dX12_pack_59 : decode cX12_pack 59 = .ok (.if_icmp .ge 40, 3) := by decide +kernel
theorem dX12_pack_62 : decode cX12_pack 62 = .ok (.aload_n 0, 1) := by decide +kernel
theorem dX12_pack_63 : decode cX12_pack 63 = .ok (.getfield 202, 3) := by decide +kernel
theorem dX12_pack_66 : decode cX12_pack 66 = .ok (.iload 4, 2) := by decide +kernel
theorem dX12_pack_68 : decode cX12_pack 68 = .ok (.dup2, 1) := by decide +kernel
theorem dX12_pack_69 : decode cX12_pack 69 = .ok (.iaload, 1) := by decide +kernel
theorem dX12_pack_70 : decode cX12_pack 70 = .ok (.iload 4, 2) := by decide +kernel
theorem dX12_pack_72 : decode cX12_pack 72 = .ok (.iload 5, 2) := by decide +kernel
theorem dX12_pack_74 : decode cX12_pack 74 = .ok (.invokestatic 357, 3) := by decide +kernel
theorem dX12_pack_77 : decode cX12_pack 77 = .ok (.ifCond .eq 13, 3) := by decide +kernel
theorem dX12_pack_80 : decode cX12_pack 80 = .ok (.aload_n 0, 1) := by decide +kernel
theorem dX12_pack_81 : decode cX12_pack 81 = .ok (.iconst 0, 1) := by decide +kernel
theorem dX12_pack_82 : decode cX12_pack 82 = .ok (.iload 5, 2) := by decide +kernel
theorem dX12_pack_84 : decode cX12_pack 84 = .ok (.invokevirtual 440, 3) := by decide +kernel
theorem dX12_pack_87 : decode cX12_pack 87 = .ok (.goto 4, 3) := by decide +kernel
theorem dX12_pack_90 : decode cX12_pack 90 = .ok (.iconst 0, 1) := by decide +kernel
theorem dX12_pack_91 : decode cX12_pack 91 = .ok (.iadd, 1) := by decide +kernel
theorem dX12_pack_92 : decode cX12_pack 92 = .ok (.iastore, 1) := by decide +kernel
theorem dX12_pack_93 : decode cX12_pack 93 = .ok (.iinc 5 1, 3) := by decide +kernel
theorem dX12_pack_96 : decode cX12_pack 96 = .ok (.goto (-48), 3) := by decide +kernel
theorem dX12_pack_99 : decode cX12_pack 99 = .ok (.iinc 4 1, 3) := by decide +kernel
theorem dX12_pack_102 : decode cX12_pack 102 = .ok (.goto (-73), 3) := by decide +kernel
theorem dX12_pack_105 : decode cX12_pack 105 = .ok (.iconst (-1), 1) := by decide +kernel
theorem dX12_pack_106 : decode cX12_pack 106 = .ok (.istore 4, 2) := by decide +kernel
theorem dX12_pack_108 : decode cX12_pack 108 = .ok (.iconst 0, 1) := by decide +kernel
theorem dX12_pack_109 : decode cX12_pack 109 = .ok (.istore 5, 2) := by decide +kernel
theorem dX12_pack_111 : decode cX12_pack 111 = .ok (.iload 5, 2) := by decide +kernel
theorem dX12_pack_113 : decode cX12_pack 113 = .ok (.iconst 1, 1) := by decide +kernel
theorem dX12_pack_114 : decode cX12_pack 114 = .ok (.aload_n 0, 1) := by decide +kernel
theorem dX12_pack_115 : decode cX12_pack 115 = .ok (.getfield 54, 3) := by decide +kernel
theorem dX12_pack_118 : decode cX12_pack 118 = .ok (.aload_n 0, 1) := by decide +kernel
theorem dX12_pack_119 : decode cX12_pack 119 = .ok (.getfield 51, 3) := by decide +kernel
theorem dX12_pack_122 : decode cX12_pack 122 = .ok (.iaload, 1) := by decide +kernel
theorem dX12_pack_123 : decode cX12_pack 123 = .ok (.ishl, 1) := by decide +kernel
theorem dX12_pack_124 : decode cX12_pack 124 = .ok (.if_icmp .ge 281, 3) := by decide +kernel
theorem dX12_pack_127 : decode cX12_pack 127 = .ok (.iload 5, 2) := by decide +kernel
theorem dX12_pack_129 : decode cX12_pack 129 = .ok (.ifCond .ne 7, 3) := by decide +kernel
theorem dX12_pack_132 : decode cX12_pack 132 = .ok (.iconst 0, 1) := by decide +kernel
theorem dX12_pack_133 : decode cX12_pack 133 = .ok (.goto 8, 3) := by decide +kernel
theorem dX12_pack_136 : decode cX12_pack 136 = .ok (.iload 5, 2) := by decide +kernel
theorem dX12_pack_138 : decode cX12_pack 138 = .ok (.invokestatic 532, 3) := by decide +kernel
theorem dX12_pack_141 : decode cX12_pack 141 = .ok (.istore 6, 2) := by decide +kernel
theorem dX12_pack_143 : decode cX12_pack 143 = .ok (.iload 5, 2) := by decide +kernel
theorem dX12_pack_145 : decode cX12_pack 145 = .ok (.ifCond .ne 7, 3) := by decide +kernel
theorem dX12_pack_148 : decode cX12_pack 148 = .ok (.iconst 0, 1) := by decide +kernel
theorem dX12_pack_149 : decode cX12_pack 149 = .ok (.goto 10, 3) := by decide +kernel
theorem dX12_pack_152 : decode cX12_pack 152 = .ok (.aload_n 0, 1) := by decide +kernel
theorem dX12_pack_153 : decode cX12_pack 153 = .ok (.iconst 0, 1) := by decide +kernel
theorem dX12_pack_154 : decode cX12_pack 154 = .ok (.iload 6, 2) := by decide +kernel
theorem dX12_pack_156 : decode cX12_pack 156 = .ok (.invokevirtual 460, 3) := by decide +kernel
theorem dX12_pack_159 : decode cX12_pack 159 = .ok (.istore 7, 2) := by decide +kernel
theorem dX12_pack_161 : decode cX12_pack 161 = .ok (.iconst 0, 1) := by decide +kernel
theorem dX12_pack_162 : decode cX12_pack 162 = .ok (.istore 8, 2) := by decide +kernel
theorem dX12_pack_164 : decode cX12_pack 164 = .ok (.iload 8, 2) := by decide +kernel
theorem dX12_pack_166 : decode cX12_pack 166 = .ok (.aload_n 0, 1) := by decide +kernel
theorem dX12_pack_167 : decode cX12_pack 167 = .ok (.getfield 66, 3) := by decide +kernel
theorem dX12_pack_170 : decode cX12_pack 170 = .ok (.aload_n 0, 1) := by decide +kernel
theorem dX12_pack_171 : decode cX12_pack 171 = .ok (.getfield 51, 3) := by decide +kernel
theorem dX12_pack_174 : decode cX12_pack 174 = .ok (.iaload, 1) := by decide +kernel
theorem dX12_pack_175 : decode cX12_pack 175 = .ok (.if_icmp .ge 51, 3) := by decide +kernel
theorem dX12_pack_178 : decode cX12_pack 178 = .ok (.iload 5, 2) := by decide +kernel
theorem dX12_pack_180 : decode cX12_pack 180 = .ok (.ifCond .le 46, 3) := by decide +kernel
theorem dX12_pack_183 : decode cX12_pack 183 = .ok (.iload 7, 2) := by decide +kernel
theorem dX12_pack_185 : decode cX12_pack 185 = .ok (.iload_n 3, 1) := by decide +kernel
theorem dX12_pack_186 : decode cX12_pack 186 = .ok (.iload 8, 2) := by decide +kernel
theorem dX12_pack_188 : decode cX12_pack 188 = .ok (.invokestatic 357, 3) := by decide +kernel
theorem dX12_pack_191 : decode cX12_pack 191 = .ok (.ifCond .eq 25, 3) := by decide +kernel
theorem dX12_pack_194 : decode cX12_pack 194 = .ok (.aload_n 0, 1) := by decide +kernel
theorem dX12_pack_195 : decode cX12_pack 195 = .ok (.iconst 0, 1) := by decide +kernel
theorem dX12_pack_196 : decode cX12_pack 196 = .ok (.iload 8, 2) := by decide +kernel
theorem dX12_pack_198 : decode cX12_pack 198 = .ok (.invokevirtual 437, 3) := by decide +kernel
theorem dX12_pack_201 : decode cX12_pack 201 = .ok (.iload 6, 2) := by decide +kernel
theorem dX12_pack_203 : decode cX12_pack 203 = .ok (.if_icmp .ne 13, 3) := by decide +kernel
theorem dX12_pack_206 : decode cX12_pack 206 = .ok (.aload_n 0, 1) := by decide +kernel
theorem dX12_pack_207 : decode cX12_pack 207 = .ok (.iconst 0, 1) := by decide +kernel
theorem dX12_pack_208 : decode cX12_pack 208 = .ok (.iload 8, 2) := by decide +kernel
theorem dX12_pack_210 : decode cX12_pack 210 = .ok (.invokevirtual 440, 3) := by decide +kernel
theorem dX12_pack_213 : decode cX12_pack 213 = .ok (.goto 4, 3) := by decide +kernel
theorem dX12_pack_216 : decode cX12_pack 216 = .ok (.iconst 0, 1) := by decide +kernel
theorem dX12_pack_217 : decode cX12_pack 217 = .ok (.iadd, 1) := by decide +kernel
theorem dX12_pack_218 : decode cX12_pack 218 = .ok (.istore 7, 2) := by decide +kernel
theorem dX12_pack_220 : decode cX12_pack 220 = .ok (.iinc 8 1, 3) := by decide +kernel
theorem dX12_pack_223 : decode cX12_pack 223 = .ok (.goto (-59), 3) := by decide +kernel
theorem dX12_pack_226 : decode cX12_pack 226 = .ok (.iconst 0, 1) := by decide +kernel
theorem dX12_pack_227 : decode cX12_pack 227 = .ok (.istore 8, 2) := by decide +kernel
theorem dX12_pack_229 : decode cX12_pack 229 = .ok (.iload 8, 2) := by decide +kernel
theorem dX12_pack_231 : decode cX12_pack 231 = .ok (.sipush 256, 3) := by decide +kernel
theorem dX12_pack_234 : decode cX12_pack 234 = .ok (.if_icmp .ge 126, 3) := by decide +kernel
theorem dX12_pack_237 : decode cX12_pack 237 = .ok (.iload 8, 2) := by decide +kernel
theorem dX12_pack_239 : decode cX12_pack 239 = .ok (.ifCond .ne 7, 3) := by decide +kernel
theorem dX12_pack_242 : decode cX12_pack 242 = .ok (.iconst 1, 1) := by decide +kernel
theorem dX12_pack_243 : decode cX12_pack 243 = .ok (.goto 4, 3) := by decide +kernel
theorem dX12_pack_246 : decode cX12_pack 246 = .ok (.iconst 0, 1) := by decide +kernel
theorem dX12_pack_247 : decode cX12_pack 247 = .ok (.istore 9, 2) := by decide +kernel
theorem dX12_pack_249 : decode cX12_pack 249 = .ok (.iload 8, 2) := by decide +kernel
theorem dX12_pack_251 : decode cX12_pack 251 = .ok (.istore 10, 2) := by decide +kernel
theorem dX12_pack_253 : decode cX12_pack 253 = .ok (.iload 9, 2) := by decide +kernel
theorem dX12_pack_255 : decode cX12_pack 255 = .ok (.ifCond .ne 83, 3) := by decide +kernel
theorem dX12_pack_258 : decode cX12_pack 258 = .ok (.iload 5, 2) := by decide +kernel
theorem dX12_pack_260 : decode cX12_pack 260 = .ok (.ifCond .le 78, 3) := by decide +kernel
theorem dX12_pack_263 : decode cX12_pack 263 = .ok (.iload 8, 2) := by decide +kernel
theorem dX12_pack_265 : decode cX12_pack 265 = .ok (.iload_n 3, 1) := by decide +kernel
theorem dX12_pack_266 : decode cX12_pack 266 = .ok (.iconst (-1), 1) := by decide +kernel
theorem dX12_pack_267 : decode cX12_pack 267 = .ok (.ixor, 1) := by decide +kernel
theorem dX12_pack_268 : decode cX12_pack 268 = .ok (.iand, 1) := by decide +kernel
theorem dX12_pack_269 : decode cX12_pack 269 = .ok (.ifCond .ne 69, 3) := by decide +kernel
theorem dX12_pack_272 : decode cX12_pack 272 = .ok (.aload_n 0, 1) := by decide +kernel
theorem dX12_pack_273 : decode cX12_pack 273 = .ok (.getfield 202, 3) := by decide +kernel
theorem dX12_pack_276 : decode cX12_pack 276 = .ok (.iload 10, 2) := by decide +kernel
theorem dX12_pack_278 : decode cX12_pack 278 = .ok (.iaload, 1) := by decide +kernel
theorem dX12_pack_279 : decode cX12_pack 279 = .ok (.iload 7, 2) := by decide +kernel
theorem dX12_pack_281 : decode cX12_pack 281 = .ok (.if_icmp .gt 34, 3) := by decide +kernel
theorem dX12_pack_284 : decode cX12_pack 284 = .ok (.aload_n 0, 1) := by decide +kernel
theorem dX12_pack_285 : decode cX12_pack 285 = .ok (.getfield 199, 3) := by decide +kernel
theorem dX12_pack_288 : decode cX12_pack 288 = .ok (.sipush 256, 3) := by decide +kernel
theorem dX12_pack_291 : decode cX12_pack 291 = .ok (.iload 5, 2) := by decide +kernel
theorem dX12_pack_293 : decode cX12_pack 293 = .ok (.iload 5, 2) := by decide +kernel
theorem dX12_pack_295 : decode cX12_pack 295 = .ok (.iconst 1, 1) := by decide +kernel
theorem dX12_pack_296 : decode cX12_pack 296 = .ok (.isub, 1) := by decide +kernel
theorem dX12_pack_297 : decode cX12_pack 297 = .ok (.iand, 1) := by decide +kernel
theorem dX12_pack_298 : decode cX12_pack 298 = .ok (.imul, 1) := by decide +kernel
theorem dX12_pack_299 : decode cX12_pack 299 = .ok (.iload 8, 2) := by decide +kernel
theorem dX12_pack_301 : decode cX12_pack 301 = .ok (.iload 10, 2) := by decide +kernel
theorem dX12_pack_303 : decode cX12_pack 303 = .ok (.iconst (-1), 1) := by decide +kernel
theorem dX12_pack_304 : decode cX12_pack 304 = .ok (.ixor, 1) := by decide +kernel
theorem dX12_pack_305 : decode cX12_pack 305 = .ok (.iand, 1) := by decide +kernel
theorem dX12_pack_306 : decode cX12_pack 306 = .ok (.iadd, 1) := by decide +kernel
theorem dX12_pack_307 : decode cX12_pack 307 = .ok (.baload, 1) := by decide +kernel
theorem dX12_pack_308 : decode cX12_pack 308 = .ok (.ifCond .eq 7, 3) := by decide +kernel
theorem dX12_pack_311 : decode cX12_pack 311 = .ok (.iconst 1, 1) := by decide +kernel
theorem dX12_pack_312 : decode cX12_pack 312 = .ok (.goto 4, 3) := by decide +kernel
theorem dX12_pack_315 : decode cX12_pack 315 = .ok (.iconst 0, 1) := by decide +kernel
theorem dX12_pack_316 : decode cX12_pack 316 = .ok (.istore 9, 2) := by decide +kernel
theorem dX12_pack_318 : decode cX12_pack 318 = .ok (.iload 10, 2) := by decide +kernel
theorem dX12_pack_320 : decode cX12_pack 320 = .ok (.ifCond .ne 6, 3) := by decide +kernel
theorem dX12_pack_323 : decode cX12_pack 323 = .ok (.goto 15, 3) := by decide +kernel
theorem dX12_pack_326 : decode cX12_pack 326 = .ok (.iload 10, 2) := by decide +kernel
theorem dX12_pack_328 : decode cX12_pack 328 = .ok (.iconst 1, 1) := by decide +kernel
theorem dX12_pack_329 : decode cX12_pack 329 = .ok (.isub, 1) := by decide +kernel
theorem dX12_pack_330 : decode cX12_pack 330 = .ok (.iload 8, 2) := by decide +kernel
theorem dX12_pack_332 : decode cX12_pack 332 = .ok (.iand, 1) := by decide +kernel
theorem dX12_pack_333 : decode cX12_pack 333 = .ok (.istore 10, 2) := by decide +kernel
theorem dX12_pack_335 : decode cX12_pack 335 = .ok (.goto (-82), 3) := by decide +kernel
theorem dX12_pack_338 : decode cX12_pack 338 = .ok (.aload_n 0, 1) := by decide +kernel
theorem dX12_pack_339 : decode cX12_pack 339 = .ok (.getfield 199, 3) := by decide +kernel
theorem dX12_pack_342 : decode cX12_pack 342 = .ok (.sipush 256, 3) := by decide +kernel
theorem dX12_pack_345 : decode cX12_pack 345 = .ok (.iload 5, 2) := by decide +kernel
theorem dX12_pack_347 : decode cX12_pack 347 = .ok (.imul, 1) := by decide +kernel
theorem dX12_pack_348 : decode cX12_pack 348 = .ok (.iload 8, 2) := by decide +kernel
theorem dX12_pack_350 : decode cX12_pack 350 = .ok (.iadd, 1) := by decide +kernel
theorem dX12_pack_351 : decode cX12_pack 351 = .ok (.iload 9, 2) := by decide +kernel
theorem dX12_pack_353 : decode cX12_pack 353 = .ok (.bastore, 1) := by decide +kernel
theorem dX12_pack_354 : decode cX12_pack 354 = .ok (.iinc 8 1, 3) := by decide +kernel
theorem dX12_pack_357 : decode cX12_pack 357 = .ok (.goto (-128), 3) := by decide +kernel
theorem dX12_pack_360 : decode cX12_pack 360 = .ok (.aload_n 0, 1) := by decide +kernel
theorem dX12_pack_361 : decode cX12_pack 361 = .ok (.getfield 199, 3) := by decide +kernel
theorem dX12_pack_364 : decode cX12_pack 364 = .ok (.sipush 256, 3) := by decide +kernel
theorem dX12_pack_367 : decode cX12_pack 367 = .ok (.iload 5, 2) := by decide +kernel
theorem dX12_pack_369 : decode cX12_pack 369 = .ok (.imul, 1) := by decide +kernel
theorem dX12_pack_370 : decode cX12_pack 370 = .ok (.iload_n 3, 1) := by decide +kernel
theorem dX12_pack_371 : decode cX12_pack 371 = .ok (.iadd, 1) := by decide +kernel
theorem dX12_pack_372 : decode cX12_pack 372 = .ok (.baload, 1) := by decide +kernel
theorem dX12_pack_373 : decode cX12_pack 373 = .ok (.ifCond .eq 26, 3) := by decide +kernel
theorem dX12_pack_376 : decode cX12_pack 376 = .ok (.iload 4, 2) := by decide +kernel
theorem dX12_pack_378 : decode cX12_pack 378 = .ok (.iconst (-1), 1) := by decide +kernel
theorem dX12_pack_379 : decode cX12_pack 379 = .ok (.if_icmp .eq 16, 3) := by decide +kernel
theorem dX12_pack_382 : decode cX12_pack 382 = .ok (.iload 5, 2) := by decide +kernel
theorem dX12_pack_384 : decode cX12_pack 384 = .ok (.invokestatic 517, 3) := by decide +kernel
theorem dX12_pack_387 : decode cX12_pack 387 = .ok (.iload 4, 2) := by decide +kernel
theorem dX12_pack_389 : decode cX12_pack 389 = .ok (.invokestatic 517, 3) := by decide +kernel
theorem dX12_pack_392 : decode cX12_pack 392 = .ok (.if_icmp .ge 7, 3) := by decide +kernel
theorem dX12_pack_395 : decode cX12_pack 395 = .ok (.iload 5, 2) := by decide +kernel
theorem dX12_pack_397 : decode cX12_pack 397 = .ok (.istore 4, 2) := by decide +kernel
theorem dX12_pack_399 : decode cX12_pack 399 = .ok (.iinc 5 1, 3) := by decide +kernel
theorem dX12_pack_402 : decode cX12_pack 402 = .ok (.goto (-291), 3) := by decide +kernel
theorem dX12_pack_405 : decode cX12_pack 405 = .ok (.iload 4, 2) := by decide +kernel
theorem dX12_pack_407 : decode cX12_pack 407 = .ok (.iconst (-1), 1) := by decide +kernel
theorem dX12_pack_408 : decode cX12_pack 408 = .ok (.if_icmp .eq 7, 3) := by decide +kernel
theorem dX12_pack_411 : decode cX12_pack 411 = .ok (.iload_n 2, 1) := by decide +kernel
theorem dX12_pack_412 : decode cX12_pack 412 = .ok (.ifCond .ne 8, 3) := by decide +kernel
theorem dX12_pack_415 : decode cX12_pack 415 = .ok (.iload 4, 2) := by decide +kernel
theorem dX12_pack_417 : decode cX12_pack 417 = .ok (.goto 8, 3) := by decide +kernel
theorem dX12_pack_420 : decode cX12_pack 420 = .ok (.iload 4, 2) := by decide +kernel
theorem dX12_pack_422 : decode cX12_pack 422 = .ok (.invokestatic 517, 3) := by decide +kernel
theorem dX12_pack_425 : decode cX12_pack 425 = .ok (.ireturn, 1) := by decide +kernel
theorem dX12_netOf_0 : decode cX12_netOf 0 = .ok (.aload_n 0, 1) := by decide +kernel
theorem dX12_netOf_1 : decode cX12_netOf 1 = .ok (.iload_n 1, 1) := by decide +kernel
theorem dX12_netOf_2 : decode cX12_netOf 2 = .ok (.iconst 0, 1) := by decide +kernel
theorem dX12_netOf_3 : decode cX12_netOf 3 = .ok (.invokevirtual 482, 3) := by decide +kernel
theorem dX12_netOf_6 : decode cX12_netOf 6 = .ok (.aload_n 0, 1) := by decide +kernel
theorem dX12_netOf_7 : decode cX12_netOf 7 = .ok (.iload_n 1, 1) := by decide +kernel
theorem dX12_netOf_8 : decode cX12_netOf 8 = .ok (.iconst 1, 1) := by decide +kernel
theorem dX12_netOf_9 : decode cX12_netOf 9 = .ok (.invokevirtual 482, 3) := by decide +kernel
theorem dX12_netOf_12 : decode cX12_netOf 12 = .ok (.isub, 1) := by decide +kernel
theorem dX12_netOf_13 : decode cX12_netOf 13 = .ok (.ireturn, 1) := by decide +kernel
theorem dX12_net_0 : decode cX12_net 0 = .ok (.aload_n 0, 1) := by decide +kernel
theorem dX12_net_1 : decode cX12_net 1 = .ok (.iload_n 1, 1) := by decide +kernel
theorem dX12_net_2 : decode cX12_net 2 = .ok (.invokevirtual 504, 3) := by decide +kernel
theorem dX12_net_5 : decode cX12_net 5 = .ok (.ifCond .eq 11, 3) := by decide +kernel
theorem dX12_net_8 : decode cX12_net 8 = .ok (.aload_n 0, 1) := by decide +kernel
theorem dX12_net_9 : decode cX12_net 9 = .ok (.iload_n 1, 1) := by decide +kernel
theorem dX12_net_10 : decode cX12_net 10 = .ok (.invokevirtual 535, 3) := by decide +kernel
theorem dX12_net_13 : decode cX12_net 13 = .ok (.goto 6, 3) := by decide +kernel
theorem dX12_net_16 : decode cX12_net 16 = .ok (.ldc_w 538, 3) := by decide +kernel
theorem dX12_net_19 : decode cX12_net 19 = .ok (.ireturn, 1) := by decide +kernel
theorem dX12_settling_0 : decode cX12_settling 0 = .ok (.iconst 0, 1) := by decide +kernel
theorem dX12_settling_1 : decode cX12_settling 1 = .ok (.istore_n 1, 1) := by decide +kernel
theorem dX12_settling_2 : decode cX12_settling 2 = .ok (.iconst 0, 1) := by decide +kernel
theorem dX12_settling_3 : decode cX12_settling 3 = .ok (.istore_n 2, 1) := by decide +kernel
theorem dX12_settling_4 : decode cX12_settling 4 = .ok (.iload_n 2, 1) := by decide +kernel
theorem dX12_settling_5 : decode cX12_settling 5 = .ok (.aload_n 0, 1) := by decide +kernel
theorem dX12_settling_6 : decode cX12_settling 6 = .ok (.getfield 63, 3) := by decide +kernel
theorem dX12_settling_9 : decode cX12_settling 9 = .ok (.aload_n 0, 1) := by decide +kernel
theorem dX12_settling_10 : decode cX12_settling 10 = .ok (.getfield 51, 3) := by decide +kernel
theorem dX12_settling_13 : decode cX12_settling 13 = .ok (.iaload, 1) := by decide +kernel
theorem dX12_settling_14 : decode cX12_settling 14 = .ok (.if_icmp .ge 27, 3) := by decide +kernel
theorem dX12_settling_17 : decode cX12_settling 17 = .ok (.iload_n 1, 1) := by decide +kernel
theorem dX12_settling_18 : decode cX12_settling 18 = .ok (.aload_n 0, 1) := by decide +kernel
theorem dX12_settling_19 : decode cX12_settling 19 = .ok (.iload_n 2, 1) := by decide +kernel
theorem dX12_settling_20 : decode cX12_settling 20 = .ok (.invokevirtual 535, 3) := by decide +kernel
theorem dX12_settling_23 : decode cX12_settling 23 = .ok (.ifCond .ne 7, 3) := by decide +kernel
theorem dX12_settling_26 : decode cX12_settling 26 = .ok (.iconst 0, 1) := by decide +kernel
theorem dX12_settling_27 : decode cX12_settling 27 = .ok (.goto 6, 3) := by decide +kernel
theorem dX12_settling_30 : decode cX12_settling 30 = .ok (.iconst 1, 1) := by decide +kernel
theorem dX12_settling_31 : decode cX12_settling 31 = .ok (.iload_n 2, 1) := by decide +kernel
theorem dX12_settling_32 : decode cX12_settling 32 = .ok (.ishl, 1) := by decide +kernel
theorem dX12_settling_33 : decode cX12_settling 33 = .ok (.ior, 1) := by decide +kernel
theorem dX12_settling_34 : decode cX12_settling 34 = .ok (.istore_n 1, 1) := by decide +kernel
theorem dX12_settling_35 : decode cX12_settling 35 = .ok (.iinc 2 1, 3) := by decide +kernel
theorem dX12_settling_38 : decode cX12_settling 38 = .ok (.goto (-34), 3) := by decide +kernel
theorem dX12_settling_41 : decode cX12_settling 41 = .ok (.iconst 0, 1) := by decide +kernel
theorem dX12_settling_42 : decode cX12_settling 42 = .ok (.istore_n 2, 1) := by decide +kernel
theorem dX12_settling_43 : decode cX12_settling 43 = .ok (.iload_n 2, 1) := by decide +kernel
theorem dX12_settling_44 : decode cX12_settling 44 = .ok (.bipush 64, 2) := by decide +kernel
theorem dX12_settling_46 : decode cX12_settling 46 = .ok (.if_icmp .ge 146, 3) := by decide +kernel
theorem dX12_settling_49 : decode cX12_settling 49 = .ok (.aload_n 0, 1) := by decide +kernel
theorem dX12_settling_50 : decode cX12_settling 50 = .ok (.getfield 205, 3) := by decide +kernel
theorem dX12_settling_53 : decode cX12_settling 53 = .ok (.iload_n 2, 1) := by decide +kernel
theorem dX12_settling_54 : decode cX12_settling 54 = .ok (.iload_n 2, 1) := by decide +kernel
theorem dX12_settling_55 : decode cX12_settling 55 = .ok (.ifCond .ne 7, 3) := by decide +kernel
theorem dX12_settling_58 : decode cX12_settling 58 = .ok (.iconst 0, 1) := by decide +kernel
theorem dX12_settling_59 : decode cX12_settling 59 = .ok (.goto 4, 3) := by decide +kernel
theorem dX12_settling_62 : decode cX12_settling 62 = .ok (.iconst (-1), 1) := by decide +kernel
theorem dX12_settling_63 : decode cX12_settling 63 = .ok (.iastore, 1) := by decide +kernel
theorem dX12_settling_64 : decode cX12_settling 64 = .ok (.iload_n 2, 1) := by decide +kernel
theorem dX12_settling_65 : decode cX12_settling 65 = .ok (.istore_n 3, 1) := by decide +kernel
theorem dX12_settling_66 : decode cX12_settling 66 = .ok (.iload_n 3, 1) := by decide +kernel
theorem dX12_settling_67 : decode cX12_settling 67 = .ok (.ifCond .le 119, 3) := by decide +kernel
theorem dX12_settling_70 : decode cX12_settling 70 = .ok (.iconst 0, 1) := by decide +kernel
theorem dX12_settling_71 : decode cX12_settling 71 = .ok (.istore 4, 2) := by decide +kernel
theorem dX12_settling_73 : decode cX12_settling 73 = .ok (.iconst 0, 1) := by decide +kernel
theorem dX12_settling_74 : decode cX12_settling 74 = .ok (.istore 5, 2) := by decide +kernel
theorem dX12_settling_76 : decode cX12_settling 76 = .ok (.iload 5, 2) := by decide +kernel
theorem dX12_settling_78 : decode cX12_settling 78 = .ok (.aload_n 0, 1) := by decide +kernel
theorem dX12_settling_79 : decode cX12_settling 79 = .ok (.getfield 63, 3) := by decide +kernel
theorem dX12_settling_82 : decode cX12_settling 82 = .ok (.aload_n 0, 1) := by decide +kernel
theorem dX12_settling_83 : decode cX12_settling 83 = .ok (.getfield 51, 3) := by decide +kernel
theorem dX12_settling_86 : decode cX12_settling 86 = .ok (.iaload, 1) := by decide +kernel
theorem dX12_settling_87 : decode cX12_settling 87 = .ok (.if_icmp .ge 33, 3) := by decide +kernel
theorem dX12_settling_90 : decode cX12_settling 90 = .ok (.iload 4, 2) := by decide +kernel
theorem dX12_settling_92 : decode cX12_settling 92 = .ok (.iload_n 3, 1) := by decide +kernel
theorem dX12_settling_93 : decode cX12_settling 93 = .ok (.iload 5, 2) := by decide +kernel
theorem dX12_settling_95 : decode cX12_settling 95 = .ok (.invokestatic 357, 3) := by decide +kernel
theorem dX12_settling_98 : decode cX12_settling 98 = .ok (.ifCond .eq 12, 3) := by decide +kernel
theorem dX12_settling_101 : decode cX12_settling 101 = .ok (.aload_n 0, 1) := by decide +kernel
theorem dX12_settling_102 : decode cX12_settling 102 = .ok (.iload 5, 2) := by decide +kernel
theorem dX12_settling_104 : decode cX12_settling 104 = .ok (.invokevirtual 535, 3) := by decide +kernel
theorem dX12_settling_107 : decode cX12_settling 107 = .ok (.goto 4, 3) := by decide +kernel
theorem dX12_settling_110 : decode cX12_settling 110 = .ok (.iconst 0, 1) := by decide +kernel
theorem dX12_settling_111 : decode cX12_settling 111 = .ok (.iadd, 1) := by decide +kernel
theorem dX12_settling_112 : decode cX12_settling 112 = .ok (.istore 4, 2) := by decide +kernel
theorem dX12_settling_114 : decode cX12_settling 114 = .ok (.iinc 5 1, 3) := by decide +kernel
theorem dX12_settling_117 : decode cX12_settling 117 = .ok (.goto (-41), 3) := by decide +kernel
theorem dX12_settling_120 : decode cX12_settling 120 = .ok (.iload 4, 2) := by decide +kernel
theorem dX12_settling_122 : decode cX12_settling 122 = .ok (.ifCond .ne 55, 3) := by decide +kernel
theorem dX12_settling_125 : decode cX12_settling 125 = .ok (.aload_n 0, 1) := by decide +kernel
theorem dX12_settling_126 : decode cX12_settling 126 = .ok (.getfield 205, 3) := by decide +kernel
theorem dX12_settling_129 : decode cX12_settling 129 = .ok (.iload_n 2, 1) := by decide +kernel
theorem dX12_settling_130 : decode cX12_settling 130 = .ok (.iload_n 3, 1) := by decide +kernel
theorem dX12_settling_131 : decode cX12_settling 131 = .ok (.iconst (-1), 1) := by decide +kernel
theorem dX12_settling_132 : decode cX12_settling 132 = .ok (.ixor, 1) := by decide +kernel
theorem dX12_settling_133 : decode cX12_settling 133 = .ok (.iand, 1) := by decide +kernel
theorem dX12_settling_134 : decode cX12_settling 134 = .ok (.iaload, 1) := by decide +kernel
theorem dX12_settling_135 : decode cX12_settling 135 = .ok (.ifCond .lt 42, 3) := by decide +kernel
theorem dX12_settling_138 : decode cX12_settling 138 = .ok (.aload_n 0, 1) := by decide +kernel
theorem dX12_settling_139 : decode cX12_settling 139 = .ok (.getfield 205, 3) := by decide +kernel
theorem dX12_settling_142 : decode cX12_settling 142 = .ok (.iload_n 2, 1) := by decide +kernel
theorem dX12_settling_143 : decode cX12_settling 143 = .ok (.iload_n 3, 1) := by decide +kernel
theorem dX12_settling_144 : decode cX12_settling 144 = .ok (.iconst (-1), 1) := by decide +kernel
theorem dX12_settling_145 : decode cX12_settling 145 = .ok (.ixor, 1) := by decide +kernel
theorem dX12_settling_146 : decode cX12_settling 146 = .ok (.iand, 1) := by decide +kernel
theorem dX12_settling_147 : decode cX12_settling 147 = .ok (.iaload, 1) := by decide +kernel
theorem dX12_settling_148 : decode cX12_settling 148 = .ok (.iconst 1, 1) := by decide +kernel
theorem dX12_settling_149 : decode cX12_settling 149 = .ok (.iadd, 1) := by decide +kernel
theorem dX12_settling_150 : decode cX12_settling 150 = .ok (.aload_n 0, 1) := by decide +kernel
theorem dX12_settling_151 : decode cX12_settling 151 = .ok (.getfield 205, 3) := by decide +kernel
theorem dX12_settling_154 : decode cX12_settling 154 = .ok (.iload_n 2, 1) := by decide +kernel
theorem dX12_settling_155 : decode cX12_settling 155 = .ok (.iaload, 1) := by decide +kernel
theorem dX12_settling_156 : decode cX12_settling 156 = .ok (.if_icmp .le 21, 3) := by decide +kernel
theorem dX12_settling_159 : decode cX12_settling 159 = .ok (.aload_n 0, 1) := by decide +kernel
theorem dX12_settling_160 : decode cX12_settling 160 = .ok (.getfield 205, 3) := by decide +kernel
theorem dX12_settling_163 : decode cX12_settling 163 = .ok (.iload_n 2, 1) := by decide +kernel
theorem dX12_settling_164 : decode cX12_settling 164 = .ok (.aload_n 0, 1) := by decide +kernel
theorem dX12_settling_165 : decode cX12_settling 165 = .ok (.getfield 205, 3) := by decide +kernel
theorem dX12_settling_168 : decode cX12_settling 168 = .ok (.iload_n 2, 1) := by decide +kernel
theorem dX12_settling_169 : decode cX12_settling 169 = .ok (.iload_n 3, 1) := by decide +kernel
theorem dX12_settling_170 : decode cX12_settling 170 = .ok (.iconst (-1), 1) := by decide +kernel
theorem dX12_settling_171 : decode cX12_settling 171 = .ok (.ixor, 1) := by decide +kernel
theorem dX12_settling_172 : decode cX12_settling 172 = .ok (.iand, 1) := by decide +kernel
theorem dX12_settling_173 : decode cX12_settling 173 = .ok (.iaload, 1) := by decide +kernel
theorem dX12_settling_174 : decode cX12_settling 174 = .ok (.iconst 1, 1) := by decide +kernel
theorem dX12_settling_175 : decode cX12_settling 175 = .ok (.iadd, 1) := by decide +kernel
theorem dX12_settling_176 : decode cX12_settling 176 = .ok (.iastore, 1) := by decide +kernel
theorem dX12_settling_177 : decode cX12_settling 177 = .ok (.iload_n 3, 1) := by decide +kernel
theorem dX12_settling_178 : decode cX12_settling 178 = .ok (.iconst 1, 1) := by decide +kernel
theorem dX12_settling_179 : decode cX12_settling 179 = .ok (.isub, 1) := by decide +kernel
theorem dX12_settling_180 : decode cX12_settling 180 = .ok (.iload_n 2, 1) := by decide +kernel
theorem dX12_settling_181 : decode cX12_settling 181 = .ok (.iand, 1) := by decide +kernel
theorem dX12_settling_182 : decode cX12_settling 182 = .ok (.istore_n 3, 1) := by decide +kernel
theorem dX12_settling_183 : decode cX12_settling 183 = .ok (.goto (-117), 3) := by decide +kernel
theorem dX12_settling_186 : decode cX12_settling 186 = .ok (.iinc 2 1, 3) := by decide +kernel
theorem dX12_settling_189 : decode cX12_settling 189 = .ok (.goto (-146), 3) := by decide +kernel
theorem dX12_settling_192 : decode cX12_settling 192 = .ok (.iload_n 1, 1) := by decide +kernel
theorem dX12_settling_193 : decode cX12_settling 193 = .ok (.invokestatic 517, 3) := by decide +kernel
theorem dX12_settling_196 : decode cX12_settling 196 = .ok (.aload_n 0, 1) := by decide +kernel
theorem dX12_settling_197 : decode cX12_settling 197 = .ok (.getfield 205, 3) := by decide +kernel
theorem dX12_settling_200 : decode cX12_settling 200 = .ok (.iload_n 1, 1) := by decide +kernel
theorem dX12_settling_201 : decode cX12_settling 201 = .ok (.iaload, 1) := by decide +kernel
theorem dX12_settling_202 : decode cX12_settling 202 = .ok (.isub, 1) := by decide +kernel
theorem dX12_settling_203 : decode cX12_settling 203 = .ok (.ireturn, 1) := by decide +kernel
theorem dX12_apart_0 : decode cX12_apart 0 = .ok (.iconst 0, 1) := by decide +kernel
theorem dX12_apart_1 : decode cX12_apart 1 = .ok (.istore 4, 2) := by decide +kernel
theorem dX12_apart_3 : decode cX12_apart 3 = .ok (.iload 4, 2) := by decide +kernel
theorem dX12_apart_5 : decode cX12_apart 5 = .ok (.iconst 3, 1) := by decide +kernel
theorem dX12_apart_6 : decode cX12_apart 6 = .ok (.if_icmp .ge 17, 3) := by decide +kernel
theorem dX12_apart_9 : decode cX12_apart 9 = .ok (.aload_n 0, 1) := by decide +kernel
theorem dX12_apart_10 : decode cX12_apart 10 = .ok (.getfield 208, 3) := by decide +kernel
theorem dX12_apart_13 : decode cX12_apart 13 = .ok (.iload 4, 2) := by decide +kernel
theorem dX12_apart_15 : decode cX12_apart 15 = .ok (.iconst 0, 1) := by decide +kernel
theorem dX12_apart_16 : decode cX12_apart 16 = .ok (.iastore, 1) := by decide +kernel
theorem dX12_apart_17 : decode cX12_apart 17 = .ok (.iinc 4 1, 3) := by decide +kernel
theorem dX12_apart_20 : decode cX12_apart 20 = .ok (.goto (-17), 3) := by decide +kernel
theorem dX12_apart_23 : decode cX12_apart 23 = .ok (.iload_n 3, 1) := by decide +kernel
theorem dX12_apart_24 : decode cX12_apart 24 = .ok (.istore 4, 2) := by decide +kernel
theorem dX12_apart_26 : decode cX12_apart 26 = .ok (.aload_n 0, 1) := by decide +kernel
theorem dX12_apart_27 : decode cX12_apart 27 = .ok (.getfield 66, 3) := by decide +kernel
theorem dX12_apart_30 : decode cX12_apart 30 = .ok (.aload_n 0, 1) := by decide +kernel
theorem dX12_apart_31 : decode cX12_apart 31 = .ok (.getfield 51, 3) := by decide +kernel
theorem dX12_apart_34 : decode cX12_apart 34 = .ok (.iaload, 1) := by decide +kernel
theorem dX12_apart_35 : decode cX12_apart 35 = .ok (.iconst 1, 1) := by decide +kernel
theorem dX12_apart_36 : decode cX12_apart 36 = .ok (.isub, 1) := by decide +kernel
theorem dX12_apart_37 : decode cX12_apart 37 = .ok (.istore 5, 2) := by decide +kernel
theorem dX12_apart_39 : decode cX12_apart 39 = .ok (.iload 5, 2) := by decide +kernel
theorem dX12_apart_41 : decode cX12_apart 41 = .ok (.ifCond .lt 46, 3) := by decide +kernel
theorem dX12_apart_44 : decode cX12_apart 44 = .ok (.iload_n 1, 1) := by decide +kernel
theorem dX12_apart_45 : decode cX12_apart 45 = .ok (.iload 5, 2) := by decide +kernel
theorem dX12_apart_47 : decode cX12_apart 47 = .ok (.invokestatic 357, 3) := by decide +kernel
theorem dX12_apart_50 : decode cX12_apart 50 = .ok (.ifCond .ne 6, 3) := by decide +kernel
theorem dX12_apart_53 : decode cX12_apart 53 = .ok (.goto 28, 3) := by decide +kernel
theorem dX12_apart_56 : decode cX12_apart 56 = .ok (.aload_n 0, 1) := by decide +kernel
theorem dX12_apart_57 : decode cX12_apart 57 = .ok (.getfield 208, 3) := by decide +kernel
theorem dX12_apart_60 : decode cX12_apart 60 = .ok (.iload 4, 2) := by decide +kernel
theorem dX12_apart_62 : decode cX12_apart 62 = .ok (.iload_n 2, 1) := by decide +kernel
theorem dX12_apart_63 : decode cX12_apart 63 = .ok (.irem, 1) := by decide +kernel
theorem dX12_apart_64 : decode cX12_apart 64 = .ok (.dup2, 1) := by decide +kernel
theorem dX12_apart_65 : decode cX12_apart 65 = .ok (.iaload, 1) := by decide +kernel
theorem dX12_apart_66 : decode cX12_apart 66 = .ok (.aload_n 0, 1) := by decide +kernel
theorem dX12_apart_67 : decode cX12_apart 67 = .ok (.getfield 211, 3) := by decide +kernel
theorem dX12_apart_70 : decode cX12_apart 70 = .ok (.iload 5, 2) := by decide +kernel
theorem dX12_apart_72 : decode cX12_apart 72 = .ok (.iaload, 1) := by decide +kernel
theorem dX12_apart_73 : decode cX12_apart 73 = .ok (.iadd, 1) := by decide +kernel
theorem dX12_apart_74 : decode cX12_apart 74 = .ok (.iastore, 1) := by decide +kernel
theorem dX12_apart_75 : decode cX12_apart 75 = .ok (.iload 4, 2) := by decide +kernel
theorem dX12_apart_77 : decode cX12_apart 77 = .ok (.iload_n 2, 1) := by decide +kernel
theorem dX12_apart_78 : decode cX12_apart 78 = .ok (.idiv, 1) := by decide +kernel
theorem dX12_apart_79 : decode cX12_apart 79 = .ok (.istore 4, 2) := by decide +kernel
theorem dX12_apart_81 : decode cX12_apart 81 = .ok (.iinc 5 (-1), 3) := by decide +kernel
theorem dX12_apart_84 : decode cX12_apart 84 = .ok (.goto (-45), 3) := by decide +kernel
theorem dX12_apart_87 : decode cX12_apart 87 = .ok (.iconst 0, 1) := by decide +kernel
theorem dX12_apart_88 : decode cX12_apart 88 = .ok (.istore 5, 2) := by decide +kernel
theorem dX12_apart_90 : decode cX12_apart 90 = .ok (.ldc_w 516, 3) := by decide +kernel
theorem dX12_apart_93 : decode cX12_apart 93 = .ok (.istore 6, 2) := by decide +kernel
theorem dX12_apart_95 : decode cX12_apart 95 = .ok (.iconst 0, 1) := by decide +kernel
theorem dX12_apart_96 : decode cX12_apart 96 = .ok (.istore 7, 2) := by decide +kernel
theorem dX12_apart_98 : decode cX12_apart 98 = .ok (.iload 7, 2) := by decide +kernel
theorem dX12_apart_100 : decode cX12_apart 100 = .ok (.iload_n 2, 1) := by decide +kernel
theorem dX12_apart_101 : decode cX12_apart 101 = .ok (.if_icmp .ge 61, 3) := by decide +kernel
theorem dX12_apart_104 : decode cX12_apart 104 = .ok (.aload_n 0, 1) := by decide +kernel
theorem dX12_apart_105 : decode cX12_apart 105 = .ok (.getfield 208, 3) := by decide +kernel
theorem dX12_apart_108 : decode cX12_apart 108 = .ok (.iload 7, 2) := by decide +kernel
theorem dX12_apart_110 : decode cX12_apart 110 = .ok (.iaload, 1) := by decide +kernel
theorem dX12_apart_111 : decode cX12_apart 111 = .ok (.iload 5, 2) := by decide +kernel
theorem dX12_apart_113 : decode cX12_apart 113 = .ok (.if_icmp .le 13, 3) := by decide +kernel
theorem dX12_apart_116 : decode cX12_apart 116 = .ok (.aload_n 0, 1) := by decide +kernel
theorem dX12_apart_117 : decode cX12_apart 117 = .ok (.getfield 208, 3) := by decide +kernel
theorem dX12_apart_120 : decode cX12_apart 120 = .ok (.iload 7, 2) := by decide +kernel
theorem dX12_apart_122 : decode cX12_apart 122 = .ok (.iaload, 1) := by decide +kernel
theorem dX12_apart_123 : decode cX12_apart 123 = .ok (.goto 5, 3) := by decide +kernel
theorem dX12_apart_126 : decode cX12_apart 126 = .ok (.iload 5, 2) := by decide +kernel
theorem dX12_apart_128 : decode cX12_apart 128 = .ok (.istore 5, 2) := by decide +kernel
theorem dX12_apart_130 : decode cX12_apart 130 = .ok (.aload_n 0, 1) := by decide +kernel
theorem dX12_apart_131 : decode cX12_apart 131 = .ok (.getfield 208, 3) := by decide +kernel
theorem dX12_apart_134 : decode cX12_apart 134 = .ok (.iload 7, 2) := by decide +kernel
theorem dX12_apart_136 : decode cX12_apart 136 = .ok (.iaload, 1) := by decide +kernel
theorem dX12_apart_137 : decode cX12_apart 137 = .ok (.iload 6, 2) := by decide +kernel
theorem dX12_apart_139 : decode cX12_apart 139 = .ok (.if_icmp .ge 13, 3) := by decide +kernel
theorem dX12_apart_142 : decode cX12_apart 142 = .ok (.aload_n 0, 1) := by decide +kernel
theorem dX12_apart_143 : decode cX12_apart 143 = .ok (.getfield 208, 3) := by decide +kernel
theorem dX12_apart_146 : decode cX12_apart 146 = .ok (.iload 7, 2) := by decide +kernel
theorem dX12_apart_148 : decode cX12_apart 148 = .ok (.iaload, 1) := by decide +kernel
theorem dX12_apart_149 : decode cX12_apart 149 = .ok (.goto 5, 3) := by decide +kernel
theorem dX12_apart_152 : decode cX12_apart 152 = .ok (.iload 6, 2) := by decide +kernel
theorem dX12_apart_154 : decode cX12_apart 154 = .ok (.istore 6, 2) := by decide +kernel
theorem dX12_apart_156 : decode cX12_apart 156 = .ok (.iinc 7 1, 3) := by decide +kernel
theorem dX12_apart_159 : decode cX12_apart 159 = .ok (.goto (-61), 3) := by decide +kernel
theorem dX12_apart_162 : decode cX12_apart 162 = .ok (.iload 5, 2) := by decide +kernel
theorem dX12_apart_164 : decode cX12_apart 164 = .ok (.iload 6, 2) := by decide +kernel
theorem dX12_apart_166 : decode cX12_apart 166 = .ok (.isub, 1) := by decide +kernel
theorem dX12_apart_167 : decode cX12_apart 167 = .ok (.ireturn, 1) := by decide +kernel
theorem dX12_share_0 : decode cX12_share 0 = .ok (.aload_n 0, 1) := by decide +kernel
theorem dX12_share_1 : decode cX12_share 1 = .ok (.iload_n 1, 1) := by decide +kernel
theorem dX12_share_2 : decode cX12_share 2 = .ok (.invokevirtual 504, 3) := by decide +kernel
theorem dX12_share_5 : decode cX12_share 5 = .ok (.ifCond .eq 25, 3) := by decide +kernel
theorem dX12_share_8 : decode cX12_share 8 = .ok (.iload_n 2, 1) := by decide +kernel
theorem dX12_share_9 : decode cX12_share 9 = .ok (.iconst 2, 1) := by decide +kernel
theorem dX12_share_10 : decode cX12_share 10 = .ok (.iconst 3, 1) := by decide +kernel
theorem dX12_share_11 : decode cX12_share 11 = .ok (.invokestatic 319, 3) := by decide +kernel
theorem dX12_share_14 : decode cX12_share 14 = .ok (.ifCond .eq 16, 3) := by decide +kernel
theorem dX12_share_17 : decode cX12_share 17 = .ok (.iload_n 3, 1) := by decide +kernel
theorem dX12_share_18 : decode cX12_share 18 = .ok (.iconst (-1), 1) := by decide +kernel
theorem dX12_share_19 : decode cX12_share 19 = .ok (.if_icmp .eq 13, 3) := by decide +kernel
theorem dX12_share_22 : decode cX12_share 22 = .ok (.aload_n 0, 1) := by decide +kernel
theorem dX12_share_23 : decode cX12_share 23 = .ok (.iload_n 3, 1) := by decide +kernel
theorem dX12_share_24 : decode cX12_share 24 = .ok (.invokevirtual 501, 3) := by decide +kernel
theorem dX12_share_27 : decode cX12_share 27 = .ok (.ifCond .ne 5, 3) := by decide +kernel
theorem dX12_share_30 : decode cX12_share 30 = .ok (.iconst (-1), 1) := by decide +kernel
theorem dX12_share_31 : decode cX12_share 31 = .ok (.ireturn, 1) := by decide +kernel
theorem dX12_share_32 : decode cX12_share 32 = .ok (.aload_n 0, 1) := by decide +kernel
theorem dX12_share_33 : decode cX12_share 33 = .ok (.iconst 0, 1) := by decide +kernel
theorem dX12_share_34 : decode cX12_share 34 = .ok (.iload_n 1, 1) := by decide +kernel
theorem dX12_share_35 : decode cX12_share 35 = .ok (.invokevirtual 486, 3) := by decide +kernel
theorem dX12_share_38 : decode cX12_share 38 = .ok (.istore 4, 2) := by decide +kernel
theorem dX12_share_40 : decode cX12_share 40 = .ok (.iload_n 3, 1) := by decide +kernel
theorem dX12_share_41 : decode cX12_share 41 = .ok (.iconst (-1), 1) := by decide +kernel
theorem dX12_share_42 : decode cX12_share 42 = .ok (.if_icmp .eq 14, 3) := by decide +kernel
theorem dX12_share_45 : decode cX12_share 45 = .ok (.iload 4, 2) := by decide +kernel
theorem dX12_share_47 : decode cX12_share 47 = .ok (.iload_n 3, 1) := by decide +kernel
theorem dX12_share_48 : decode cX12_share 48 = .ok (.invokestatic 357, 3) := by decide +kernel
theorem dX12_share_51 : decode cX12_share 51 = .ok (.ifCond .ne 5, 3) := by decide +kernel
theorem dX12_share_54 : decode cX12_share 54 = .ok (.iconst (-1), 1) := by decide +kernel
theorem dX12_share_55 : decode cX12_share 55 = .ok (.ireturn, 1) := by decide +kernel
theorem dX12_share_56 : decode cX12_share 56 = .ok (.iconst 1, 1) := by decide +kernel
theorem dX12_share_57 : decode cX12_share 57 = .ok (.istore 5, 2) := by decide +kernel
theorem dX12_share_59 : decode cX12_share 59 = .ok (.iconst 0, 1) := by decide +kernel
theorem dX12_share_60 : decode cX12_share 60 = .ok (.istore 6, 2) := by decide +kernel
theorem dX12_share_62 : decode cX12_share 62 = .ok (.iload 6, 2) := by decide +kernel
theorem dX12_share_64 : decode cX12_share 64 = .ok (.aload_n 0, 1) := by decide +kernel
theorem dX12_share_65 : decode cX12_share 65 = .ok (.getfield 66, 3) := by decide +kernel
theorem dX12_share_68 : decode cX12_share 68 = .ok (.aload_n 0, 1) := by decide +kernel
theorem dX12_share_69 : decode cX12_share 69 = .ok (.getfield 51, 3) := by decide +kernel
theorem dX12_share_72 : decode cX12_share 72 = .ok (.iaload, 1) := by decide +kernel
theorem dX12_share_73 : decode cX12_share 73 = .ok (.if_icmp .ge 43, 3) := by decide +kernel
theorem dX12_share_76 : decode cX12_share 76 = .ok (.aload_n 0, 1) := by decide +kernel
theorem dX12_share_77 : decode cX12_share 77 = .ok (.getfield 211, 3) := by decide +kernel
theorem dX12_share_80 : decode cX12_share 80 = .ok (.iload 6, 2) := by decide +kernel
theorem dX12_share_82 : decode cX12_share 82 = .ok (.aload_n 0, 1) := by decide +kernel
theorem dX12_share_83 : decode cX12_share 83 = .ok (.iconst 0, 1) := by decide +kernel
theorem dX12_share_84 : decode cX12_share 84 = .ok (.iload 6, 2) := by decide +kernel
theorem dX12_share_86 : decode cX12_share 86 = .ok (.invokevirtual 476, 3) := by decide +kernel
theorem dX12_share_89 : decode cX12_share 89 = .ok (.iastore, 1) := by decide +kernel
theorem dX12_share_90 : decode cX12_share 90 = .ok (.iload 5, 2) := by decide +kernel
theorem dX12_share_92 : decode cX12_share 92 = .ok (.iload 4, 2) := by decide +kernel
theorem dX12_share_94 : decode cX12_share 94 = .ok (.iload 6, 2) := by decide +kernel
theorem dX12_share_96 : decode cX12_share 96 = .ok (.invokestatic 357, 3) := by decide +kernel
theorem dX12_share_99 : decode cX12_share 99 = .ok (.ifCond .eq 7, 3) := by decide +kernel
theorem dX12_share_102 : decode cX12_share 102 = .ok (.iload_n 2, 1) := by decide +kernel
theorem dX12_share_103 : decode cX12_share 103 = .ok (.goto 4, 3) := by decide +kernel
theorem dX12_share_106 : decode cX12_share 106 = .ok (.iconst 1, 1) := by decide +kernel
theorem dX12_share_107 : decode cX12_share 107 = .ok (.imul, 1) := by decide +kernel
theorem dX12_share_108 : decode cX12_share 108 = .ok (.istore 5, 2) := by decide +kernel
theorem dX12_share_110 : decode cX12_share 110 = .ok (.iinc 6 1, 3) := by decide +kernel
theorem dX12_share_113 : decode cX12_share 113 = .ok (.goto (-51), 3) := by decide +kernel
theorem dX12_share_116 : decode cX12_share 116 = .ok (.iconst 0, 1) := by decide +kernel
theorem dX12_share_117 : decode cX12_share 117 = .ok (.istore 6, 2) := by decide +kernel
theorem dX12_share_119 : decode cX12_share 119 = .ok (.iconst 1, 1) := by decide +kernel
theorem dX12_share_120 : decode cX12_share 120 = .ok (.istore 7, 2) := by decide +kernel
theorem dX12_share_122 : decode cX12_share 122 = .ok (.iload 7, 2) := by decide +kernel
theorem dX12_share_124 : decode cX12_share 124 = .ok (.iload 5, 2) := by decide +kernel
theorem dX12_share_126 : decode cX12_share 126 = .ok (.if_icmp .ge 34, 3) := by decide +kernel
theorem dX12_share_129 : decode cX12_share 129 = .ok (.aload_n 0, 1) := by decide +kernel
theorem dX12_share_130 : decode cX12_share 130 = .ok (.iload 4, 2) := by decide +kernel
theorem dX12_share_132 : decode cX12_share 132 = .ok (.iload_n 2, 1) := by decide +kernel
theorem dX12_share_133 : decode cX12_share 133 = .ok (.iload 7, 2) := by decide +kernel
theorem dX12_share_135 : decode cX12_share 135 = .ok (.invokevirtual 539, 3) := by decide +kernel
theorem dX12_share_138 : decode cX12_share 138 = .ok (.aload_n 0, 1) := by decide +kernel
theorem dX12_share_139 : decode cX12_share 139 = .ok (.iload 4, 2) := by decide +kernel
theorem dX12_share_141 : decode cX12_share 141 = .ok (.iload_n 2, 1) := by decide +kernel
theorem dX12_share_142 : decode cX12_share 142 = .ok (.iload 6, 2) := by decide +kernel
theorem dX12_share_144 : decode cX12_share 144 = .ok (.invokevirtual 539, 3) := by decide +kernel
theorem dX12_share_147 : decode cX12_share 147 = .ok (.if_icmp .ge 7, 3) := by decide +kernel
theorem dX12_share_150 : decode cX12_share 150 = .ok (.iload 7, 2) := by decide +kernel
theorem dX12_share_152 : decode cX12_share 152 = .ok (.istore 6, 2) := by decide +kernel
theorem dX12_share_154 : decode cX12_share 154 = .ok (.iinc 7 1, 3) := by decide +kernel
theorem dX12_share_157 : decode cX12_share 157 = .ok (.goto (-35), 3) := by decide +kernel
theorem dX12_share_160 : decode cX12_share 160 = .ok (.iload_n 3, 1) := by decide +kernel
theorem dX12_share_161 : decode cX12_share 161 = .ok (.iconst (-1), 1) := by decide +kernel
theorem dX12_share_162 : decode cX12_share 162 = .ok (.if_icmp .ne 13, 3) := by decide +kernel
theorem dX12_share_165 : decode cX12_share 165 = .ok (.aload_n 0, 1) := by decide +kernel
theorem dX12_share_166 : decode cX12_share 166 = .ok (.iload 4, 2) := by decide +kernel
theorem dX12_share_168 : decode cX12_share 168 = .ok (.iload_n 2, 1) := by decide +kernel
theorem dX12_share_169 : decode cX12_share 169 = .ok (.iload 6, 2) := by decide +kernel
theorem dX12_share_171 : decode cX12_share 171 = .ok (.invokevirtual 539, 3) := by decide +kernel
theorem dX12_share_174 : decode cX12_share 174 = .ok (.ireturn, 1) := by decide +kernel
theorem dX12_share_175 : decode cX12_share 175 = .ok (.iload 6, 2) := by decide +kernel
theorem dX12_share_177 : decode cX12_share 177 = .ok (.istore 7, 2) := by decide +kernel
theorem dX12_share_179 : decode cX12_share 179 = .ok (.aload_n 0, 1) := by decide +kernel
theorem dX12_share_180 : decode cX12_share 180 = .ok (.getfield 66, 3) := by decide +kernel
theorem dX12_share_183 : decode cX12_share 183 = .ok (.aload_n 0, 1) := by decide +kernel
theorem dX12_share_184 : decode cX12_share 184 = .ok (.getfield 51, 3) := by decide +kernel
theorem dX12_share_187 : decode cX12_share 187 = .ok (.iaload, 1) := by decide +kernel
theorem dX12_share_188 : decode cX12_share 188 = .ok (.iconst 1, 1) := by decide +kernel
theorem dX12_share_189 : decode cX12_share 189 = .ok (.isub, 1) := by decide +kernel
theorem dX12_share_190 : decode cX12_share 190 = .ok (.istore 8, 2) := by decide +kernel
theorem dX12_share_192 : decode cX12_share 192 = .ok (.iload 8, 2) := by decide +kernel
theorem dX12_share_194 : decode cX12_share 194 = .ok (.iload_n 3, 1) := by decide +kernel
theorem dX12_share_195 : decode cX12_share 195 = .ok (.if_icmp .le 29, 3) := by decide +kernel
theorem dX12_share_198 : decode cX12_share 198 = .ok (.iload 7, 2) := by decide +kernel
theorem dX12_share_200 : decode cX12_share 200 = .ok (.iload 4, 2) := by decide +kernel
theorem dX12_share_202 : decode cX12_share 202 = .ok (.iload 8, 2) := by decide +kernel
theorem dX12_share_204 : decode cX12_share 204 = .ok (.invokestatic 357, 3) := by decide +kernel
theorem dX12_share_207 : decode cX12_share 207 = .ok (.ifCond .eq 7, 3) := by decide +kernel
theorem dX12_share_210 : decode cX12_share 210 = .ok (.iload_n 2, 1) := by decide +kernel
theorem dX12_share_211 : decode cX12_share 211 = .ok (.goto 4, 3) := by decide +kernel
theorem dX12_share_214 : decode cX12_share 214 = .ok (.iconst 1, 1) := by decide +kernel
theorem dX12_share_215 : decode cX12_share 215 = .ok (.idiv, 1) := by decide +kernel
theorem dX12_share_216 : decode cX12_share 216 = .ok (.istore 7, 2) := by decide +kernel
theorem dX12_share_218 : decode cX12_share 218 = .ok (.iinc 8 (-1), 3) := by decide +kernel
theorem dX12_share_221 : decode cX12_share 221 = .ok (.goto (-29), 3) := by decide +kernel
theorem dX12_share_224 : decode cX12_share 224 = .ok (.iload 7, 2) := by decide +kernel
theorem dX12_share_226 : decode cX12_share 226 = .ok (.iload_n 2, 1) := by decide +kernel
theorem dX12_share_227 : decode cX12_share 227 = .ok (.irem, 1) := by decide +kernel
theorem dX12_share_228 : decode cX12_share 228 = .ok (.ireturn, 1) := by decide +kernel
theorem dX12_stood_0 : decode cX12_stood 0 = .ok (.aload_n 0, 1) := by decide +kernel
theorem dX12_stood_1 : decode cX12_stood 1 = .ok (.getfield 13, 3) := by decide +kernel
theorem dX12_stood_4 : decode cX12_stood 4 = .ok (.istore_n 1, 1) := by decide +kernel
theorem dX12_stood_5 : decode cX12_stood 5 = .ok (.aload_n 0, 1) := by decide +kernel
theorem dX12_stood_6 : decode cX12_stood 6 = .ok (.iconst 0, 1) := by decide +kernel
theorem dX12_stood_7 : decode cX12_stood 7 = .ok (.putfield 13, 3) := by decide +kernel
theorem dX12_stood_10 : decode cX12_stood 10 = .ok (.iload_n 1, 1) := by decide +kernel
theorem dX12_stood_11 : decode cX12_stood 11 = .ok (.ifCond .le 19, 3) := by decide +kernel
theorem dX12_stood_14 : decode cX12_stood 14 = .ok (.iload_n 1, 1) := by decide +kernel
theorem dX12_stood_15 : decode cX12_stood 15 = .ok (.iconst 3, 1) := by decide +kernel
theorem dX12_stood_16 : decode cX12_stood 16 = .ok (.irem, 1) := by decide +kernel
theorem dX12_stood_17 : decode cX12_stood 17 = .ok (.ifCond .ne 13, 3) := by decide +kernel
theorem dX12_stood_20 : decode cX12_stood 20 = .ok (.iload_n 1, 1) := by decide +kernel
theorem dX12_stood_21 : decode cX12_stood 21 = .ok (.bipush 24, 2) := by decide +kernel
theorem dX12_stood_23 : decode cX12_stood 23 = .ok (.if_icmp .gt 7, 3) := by decide +kernel
theorem dX12_stood_26 : decode cX12_stood 26 = .ok (.iconst 1, 1) := by decide +kernel
theorem dX12_stood_27 : decode cX12_stood 27 = .ok (.goto 4, 3) := by decide +kernel
theorem dX12_stood_30 : decode cX12_stood 30 = .ok (.iconst 0, 1) := by decide +kernel
theorem dX12_stood_31 : decode cX12_stood 31 = .ok (.istore_n 2, 1) := by decide +kernel
theorem dX12_stood_32 : decode cX12_stood 32 = .ok (.iconst 0, 1) := by decide +kernel
theorem dX12_stood_33 : decode cX12_stood 33 = .ok (.istore_n 3, 1) := by decide +kernel
theorem dX12_stood_34 : decode cX12_stood 34 = .ok (.iload_n 3, 1) := by decide +kernel
theorem dX12_stood_35 : decode cX12_stood 35 = .ok (.iload_n 1, 1) := by decide +kernel
theorem dX12_stood_36 : decode cX12_stood 36 = .ok (.if_icmp .ge 45, 3) := by decide +kernel
theorem dX12_stood_39 : decode cX12_stood 39 = .ok (.iload_n 2, 1) := by decide +kernel
theorem dX12_stood_40 : decode cX12_stood 40 = .ok (.ifCond .eq 41, 3) := by decide +kernel
theorem dX12_stood_43 : decode cX12_stood 43 = .ok (.aload_n 0, 1) := by decide +kernel
theorem dX12_stood_44 : decode cX12_stood 44 = .ok (.aload_n 0, 1) := by decide +kernel
theorem dX12_stood_45 : decode cX12_stood 45 = .ok (.getfield 7, 3) := by decide +kernel
theorem dX12_stood_48 : decode cX12_stood 48 = .ok (.iload_n 3, 1) := by decide +kernel
theorem dX12_stood_49 : decode cX12_stood 49 = .ok (.iaload, 1) := by decide +kernel
theorem dX12_stood_50 : decode cX12_stood 50 = .ok (.invokevirtual 501, 3) := by decide +kernel
theorem dX12_stood_53 : decode cX12_stood 53 = .ok (.ifCond .eq 20, 3) := by decide +kernel
theorem dX12_stood_56 : decode cX12_stood 56 = .ok (.aload_n 0, 1) := by decide +kernel
theorem dX12_stood_57 : decode cX12_stood 57 = .ok (.iload_n 3, 1) := by decide +kernel
theorem dX12_stood_58 : decode cX12_stood 58 = .ok (.iconst 1, 1) := by decide +kernel
theorem dX12_stood_59 : decode cX12_stood 59 = .ok (.iadd, 1) := by decide +kernel
theorem dX12_stood_60 : decode cX12_stood 60 = .ok (.invokevirtual 542, 3) := by decide +kernel
theorem dX12_stood_63 : decode cX12_stood 63 = .ok (.sipush 999, 3) := by decide +kernel
theorem dX12_stood_66 : decode cX12_stood 66 = .ok (.if_icmp .gt 7, 3) := by decide +kernel
theorem dX12_stood_69 : decode cX12_stood 69 = .ok (.iconst 1, 1) := by decide +kernel
theorem dX12_stood_70 : decode cX12_stood 70 = .ok (.goto 4, 3) := by decide +kernel
theorem dX12_stood_73 : decode cX12_stood 73 = .ok (.iconst 0, 1) := by decide +kernel
theorem dX12_stood_74 : decode cX12_stood 74 = .ok (.istore_n 2, 1) := by decide +kernel
theorem dX12_stood_75 : decode cX12_stood 75 = .ok (.iinc 3 3, 3) := by decide +kernel
theorem dX12_stood_78 : decode cX12_stood 78 = .ok (.goto (-44), 3) := by decide +kernel
theorem dX12_stood_81 : decode cX12_stood 81 = .ok (.iload_n 2, 1) := by decide +kernel
theorem dX12_stood_82 : decode cX12_stood 82 = .ok (.ifCond .ne 9, 3) := by decide +kernel
theorem dX12_stood_85 : decode cX12_stood 85 = .ok (.aload_n 0, 1) := by decide +kernel
theorem dX12_stood_86 : decode cX12_stood 86 = .ok (.iconst 5, 1) := by decide +kernel
theorem dX12_stood_87 : decode cX12_stood 87 = .ok (.invokevirtual 229, 3) := by decide +kernel
theorem dX12_stood_90 : decode cX12_stood 90 = .ok (.ireturn, 1) := by decide +kernel
theorem dX12_stood_91 : decode cX12_stood 91 = .ok (.aload_n 0, 1) := by decide +kernel
theorem dX12_stood_92 : decode cX12_stood 92 = .ok (.iload_n 1, 1) := by decide +kernel
theorem dX12_stood_93 : decode cX12_stood 93 = .ok (.iconst 3, 1) := by decide +kernel
theorem dX12_stood_94 : decode cX12_stood 94 = .ok (.idiv, 1) := by decide +kernel
theorem dX12_stood_95 : decode cX12_stood 95 = .ok (.putfield 214, 3) := by decide +kernel
theorem dX12_stood_98 : decode cX12_stood 98 = .ok (.iconst 0, 1) := by decide +kernel
theorem dX12_stood_99 : decode cX12_stood 99 = .ok (.istore_n 3, 1) := by decide +kernel
theorem dX12_stood_100 : decode cX12_stood 100 = .ok (.iload_n 3, 1) := by decide +kernel
theorem dX12_stood_101 : decode cX12_stood 101 = .ok (.aload_n 0, 1) := by decide +kernel
theorem dX12_stood_102 : decode cX12_stood 102 = .ok (.getfield 214, 3) := by decide +kernel
theorem dX12_stood_105 : decode cX12_stood 105 = .ok (.if_icmp .ge 38, 3) := by decide +kernel
theorem dX12_stood_108 : decode cX12_stood 108 = .ok (.aload_n 0, 1) := by decide +kernel
theorem dX12_stood_109 : decode cX12_stood 109 = .ok (.getfield 217, 3) := by decide +kernel
theorem dX12_stood_112 : decode cX12_stood 112 = .ok (.iload_n 3, 1) := by decide +kernel
theorem dX12_stood_113 : decode cX12_stood 113 = .ok (.aload_n 0, 1) := by decide +kernel
theorem dX12_stood_114 : decode cX12_stood 114 = .ok (.getfield 7, 3) := by decide +kernel
theorem dX12_stood_117 : decode cX12_stood 117 = .ok (.iconst 3, 1) := by decide +kernel
theorem dX12_stood_118 : decode cX12_stood 118 = .ok (.iload_n 3, 1) := by decide +kernel
theorem dX12_stood_119 : decode cX12_stood 119 = .ok (.imul, 1) := by decide +kernel
theorem dX12_stood_120 : decode cX12_stood 120 = .ok (.iaload, 1) := by decide +kernel
theorem dX12_stood_121 : decode cX12_stood 121 = .ok (.iastore, 1) := by decide +kernel
theorem dX12_stood_122 : decode cX12_stood 122 = .ok (.aload_n 0, 1) := by decide +kernel
theorem dX12_stood_123 : decode cX12_stood 123 = .ok (.getfield 220, 3) := by decide +kernel
theorem dX12_stood_126 : decode cX12_stood 126 = .ok (.iload_n 3, 1) := by decide +kernel
theorem dX12_stood_127 : decode cX12_stood 127 = .ok (.aload_n 0, 1) := by decide +kernel
theorem dX12_stood_128 : decode cX12_stood 128 = .ok (.iconst 3, 1) := by decide +kernel
theorem dX12_stood_129 : decode cX12_stood 129 = .ok (.iload_n 3, 1) := by decide +kernel
theorem dX12_stood_130 : decode cX12_stood 130 = .ok (.imul, 1) := by decide +kernel
theorem dX12_stood_131 : decode cX12_stood 131 = .ok (.iconst 1, 1) := by decide +kernel
theorem dX12_stood_132 : decode cX12_stood 132 = .ok (.iadd, 1) := by decide +kernel
theorem dX12_stood_133 : decode cX12_stood 133 = .ok (.invokevirtual 542, 3) := by decide +kernel
theorem dX12_stood_136 : decode cX12_stood 136 = .ok (.iastore, 1) := by decide +kernel
theorem dX12_stood_137 : decode cX12_stood 137 = .ok (.iinc 3 1, 3) := by decide +kernel
theorem dX12_stood_140 : decode cX12_stood 140 = .ok (.goto (-40), 3) := by decide +kernel
theorem dX12_stood_143 : decode cX12_stood 143 = .ok (.aload_n 0, 1) := by decide +kernel
theorem dX12_stood_144 : decode cX12_stood 144 = .ok (.getfield 214, 3) := by decide +kernel
theorem dX12_stood_147 : decode cX12_stood 147 = .ok (.ireturn, 1) := by decide +kernel
theorem dX12_isAsStood_0 : decode cX12_isAsStood 0 = .ok (.iconst 0, 1) := by decide +kernel
theorem dX12_isAsStood_1 : decode cX12_isAsStood 1 = .ok (.istore_n 1, 1) := by decide +kernel
theorem dX12_isAsStood_2 : decode cX12_isAsStood 2 = .ok (.iload_n 1, 1) := by decide +kernel
theorem dX12_isAsStood_3 : decode cX12_isAsStood 3 = .ok (.aload_n 0, 1) := by decide +kernel
theorem dX12_isAsStood_4 : decode cX12_isAsStood 4 = .ok (.getfield 214, 3) := by decide +kernel
theorem dX12_isAsStood_7 : decode cX12_isAsStood 7 = .ok (.if_icmp .ge 31, 3) := by decide +kernel
theorem dX12_isAsStood_10 : decode cX12_isAsStood 10 = .ok (.aload_n 0, 1) := by decide +kernel
theorem dX12_isAsStood_11 : decode cX12_isAsStood 11 = .ok (.iconst 1, 1) := by decide +kernel
theorem dX12_isAsStood_12 : decode cX12_isAsStood 12 = .ok (.aload_n 0, 1) := by decide +kernel
theorem dX12_isAsStood_13 : decode cX12_isAsStood 13 = .ok (.getfield 217, 3) := by decide +kernel
theorem dX12_isAsStood_16 : decode cX12_isAsStood 16 = .ok (.iload_n 1, 1) := by decide +kernel
theorem dX12_isAsStood_17 : decode cX12_isAsStood 17 = .ok (.iaload, 1) := by decide +kernel
theorem dX12_isAsStood_18 : decode cX12_isAsStood 18 = .ok (.invokevirtual 440, 3) := by decide +kernel
theorem dX12_isAsStood_21 : decode cX12_isAsStood 21 = .ok (.aload_n 0, 1) := by decide +kernel
theorem dX12_isAsStood_22 : decode cX12_isAsStood 22 = .ok (.getfield 220, 3) := by decide +kernel
theorem dX12_isAsStood_25 : decode cX12_isAsStood 25 = .ok (.iload_n 1, 1) := by decide +kernel
theorem dX12_isAsStood_26 : decode cX12_isAsStood 26 = .ok (.iaload, 1) := by decide +kernel
theorem dX12_isAsStood_27 : decode cX12_isAsStood 27 = .ok (.if_icmp .eq 5, 3) := by decide +kernel
theorem dX12_isAsStood_30 : decode cX12_isAsStood 30 = .ok (.iconst 0, 1) := by decide +kernel
theorem dX12_isAsStood_31 : decode cX12_isAsStood 31 = .ok (.ireturn, 1) := by decide +kernel
theorem dX12_isAsStood_32 : decode cX12_isAsStood 32 = .ok (.iinc 1 1, 3) := by decide +kernel
theorem dX12_isAsStood_35 : decode cX12_isAsStood 35 = .ok (.goto (-33), 3) := by decide +kernel
theorem dX12_isAsStood_38 : decode cX12_isAsStood 38 = .ok (.iconst 1, 1) := by decide +kernel
theorem dX12_isAsStood_39 : decode cX12_isAsStood 39 = .ok (.ireturn, 1) := by decide +kernel
theorem dX12_robbed_0 : decode cX12_robbed 0 = .ok (.aload_n 0, 1) := by decide +kernel
theorem dX12_robbed_1 : decode cX12_robbed 1 = .ok (.getfield 214, 3) := by decide +kernel
theorem dX12_robbed_4 : decode cX12_robbed 4 = .ok (.ifCond .eq 14, 3) := by decide +kernel
theorem dX12_robbed_7 : decode cX12_robbed 7 = .ok (.iload_n 1, 1) := by decide +kernel
theorem dX12_robbed_8 : decode cX12_robbed 8 = .ok (.iconst 1, 1) := by decide +kernel
theorem dX12_robbed_9 : decode cX12_robbed 9 = .ok (.sipush 999, 3) := by decide +kernel
theorem dX12_robbed_12 : decode cX12_robbed 12 = .ok (.invokestatic 319, 3) := by decide +kernel
theorem dX12_robbed_15 : decode cX12_robbed 15 = .ok (.ifCond .ne 5, 3) := by decide +kernel
theorem dX12_robbed_18 : decode cX12_robbed 18 = .ok (.iconst (-1), 1) := by decide +kernel
theorem dX12_robbed_19 : decode cX12_robbed 19 = .ok (.ireturn, 1) := by decide +kernel
theorem dX12_robbed_20 : decode cX12_robbed 20 = .ok (.aload_n 0, 1) := by decide +kernel
theorem dX12_robbed_21 : decode cX12_robbed 21 = .ok (.iconst 1, 1) := by decide +kernel
theorem dX12_robbed_22 : decode cX12_robbed 22 = .ok (.iconst 0, 1) := by decide +kernel
theorem dX12_robbed_23 : decode cX12_robbed 23 = .ok (.invokevirtual 418, 3) := by decide +kernel
theorem dX12_robbed_26 : decode cX12_robbed 26 = .ok (.aload_n 0, 1) := by decide +kernel
theorem dX12_robbed_27 : decode cX12_robbed 27 = .ok (.iconst 1, 1) := by decide +kernel
theorem dX12_robbed_28 : decode cX12_robbed 28 = .ok (.iconst 0, 1) := by decide +kernel
theorem dX12_robbed_29 : decode cX12_robbed 29 = .ok (.invokevirtual 513, 3) := by decide +kernel
theorem dX12_robbed_32 : decode cX12_robbed 32 = .ok (.pop, 1) := by decide +kernel
theorem dX12_robbed_33 : decode cX12_robbed 33 = .ok (.aload_n 0, 1) := by decide +kernel
theorem dX12_robbed_34 : decode cX12_robbed 34 = .ok (.invokevirtual 545, 3) := by decide +kernel
theorem dX12_robbed_37 : decode cX12_robbed 37 = .ok (.ifCond .eq 9, 3) := by decide +kernel
theorem dX12_robbed_40 : decode cX12_robbed 40 = .ok (.sipush 256, 3) := by decide +kernel
theorem dX12_robbed_43 : decode cX12_robbed 43 = .ok (.goto 4, 3) := by decide +kernel
theorem dX12_robbed_46 : decode cX12_robbed 46 = .ok (.iconst 0, 1) := by decide +kernel
theorem dX12_robbed_47 : decode cX12_robbed 47 = .ok (.istore_n 2, 1) := by decide +kernel
theorem dX12_robbed_48 : decode cX12_robbed 48 = .ok (.iconst 0, 1) := by decide +kernel
theorem dX12_robbed_49 : decode cX12_robbed 49 = .ok (.istore_n 3, 1) := by decide +kernel
theorem dX12_robbed_50 : decode cX12_robbed 50 = .ok (.iload_n 3, 1) := by decide +kernel
theorem dX12_robbed_51 : decode cX12_robbed 51 = .ok (.aload_n 0, 1) := by decide +kernel
theorem dX12_robbed_52 : decode cX12_robbed 52 = .ok (.getfield 66, 3) := by decide +kernel
theorem dX12_robbed_55 : decode cX12_robbed 55 = .ok (.aload_n 0, 1) := by decide +kernel
theorem dX12_robbed_56 : decode cX12_robbed 56 = .ok (.getfield 51, 3) := by decide +kernel
theorem dX12_robbed_59 : decode cX12_robbed 59 = .ok (.iaload, 1) := by decide +kernel
theorem dX12_robbed_60 : decode cX12_robbed 60 = .ok (.if_icmp .ge 76, 3) := by decide +kernel
theorem dX12_robbed_63 : decode cX12_robbed 63 = .ok (.aload_n 0, 1) := by decide +kernel
theorem dX12_robbed_64 : decode cX12_robbed 64 = .ok (.iconst 1, 1) := by decide +kernel
theorem dX12_robbed_65 : decode cX12_robbed 65 = .ok (.iload_n 3, 1) := by decide +kernel
theorem dX12_robbed_66 : decode cX12_robbed 66 = .ok (.invokevirtual 440, 3) := by decide +kernel
theorem dX12_robbed_69 : decode cX12_robbed 69 = .ok (.istore 4, 2) := by decide +kernel
theorem dX12_robbed_71 : decode cX12_robbed 71 = .ok (.iload 4, 2) := by decide +kernel
theorem dX12_robbed_73 : decode cX12_robbed 73 = .ok (.ifCond .ne 6, 3) := by decide +kernel
theorem dX12_robbed_76 : decode cX12_robbed 76 = .ok (.goto 54, 3) := by decide +kernel
theorem dX12_robbed_79 : decode cX12_robbed 79 = .ok (.aload_n 0, 1) := by decide +kernel
theorem dX12_robbed_80 : decode cX12_robbed 80 = .ok (.getfield 156, 3) := by decide +kernel
theorem dX12_robbed_83 : decode cX12_robbed 83 = .ok (.bipush 8, 2) := by decide +kernel
theorem dX12_robbed_85 : decode cX12_robbed 85 = .ok (.iload_n 3, 1) := by decide +kernel
theorem dX12_robbed_86 : decode cX12_robbed 86 = .ok (.iadd, 1) := by decide +kernel
theorem dX12_robbed_87 : decode cX12_robbed 87 = .ok (.iload 4, 2) := by decide +kernel
theorem dX12_robbed_89 : decode cX12_robbed 89 = .ok (.iload_n 1, 1) := by decide +kernel
theorem dX12_robbed_90 : decode cX12_robbed 90 = .ok (.if_icmp .ge 7, 3) := by decide +kernel
theorem dX12_robbed_93 : decode cX12_robbed 93 = .ok (.iconst 0, 1) := by decide +kernel
theorem dX12_robbed_94 : decode cX12_robbed 94 = .ok (.goto 7, 3) := by decide +kernel
theorem dX12_robbed_97 : decode cX12_robbed 97 = .ok (.iload 4, 2) := by decide +kernel
theorem dX12_robbed_99 : decode cX12_robbed 99 = .ok (.iload_n 1, 1) := by decide +kernel
theorem dX12_robbed_100 : decode cX12_robbed 100 = .ok (.isub, 1) := by decide +kernel
theorem dX12_robbed_101 : decode cX12_robbed 101 = .ok (.iastore, 1) := by decide +kernel
theorem dX12_robbed_102 : decode cX12_robbed 102 = .ok (.iload_n 2, 1) := by decide +kernel
theorem dX12_robbed_103 : decode cX12_robbed 103 = .ok (.aload_n 0, 1) := by decide +kernel
theorem dX12_robbed_104 : decode cX12_robbed 104 = .ok (.invokevirtual 545, 3) := by decide +kernel
theorem dX12_robbed_107 : decode cX12_robbed 107 = .ok (.ifCond .eq 9, 3) := by decide +kernel
theorem dX12_robbed_110 : decode cX12_robbed 110 = .ok (.iconst 1, 1) := by decide +kernel
theorem dX12_robbed_111 : decode cX12_robbed 111 = .ok (.iload_n 3, 1) := by decide +kernel
theorem dX12_robbed_112 : decode cX12_robbed 112 = .ok (.ishl, 1) := by decide +kernel
theorem dX12_robbed_113 : decode cX12_robbed 113 = .ok (.goto 4, 3) := by decide +kernel
theorem dX12_robbed_116 : decode cX12_robbed 116 = .ok (.iconst 0, 1) := by decide +kernel
theorem dX12_robbed_117 : decode cX12_robbed 117 = .ok (.ior, 1) := by decide +kernel
theorem dX12_robbed_118 : decode cX12_robbed 118 = .ok (.istore_n 2, 1) := by decide +kernel
theorem dX12_robbed_119 : decode cX12_robbed 119 = .ok (.aload_n 0, 1) := by decide +kernel
theorem dX12_robbed_120 : decode cX12_robbed 120 = .ok (.getfield 156, 3) := by decide +kernel
theorem dX12_robbed_123 : decode cX12_robbed 123 = .ok (.bipush 8, 2) := by decide +kernel
theorem dX12_robbed_125 : decode cX12_robbed 125 = .ok (.iload_n 3, 1) := by decide +kernel
theorem dX12_robbed_126 : decode cX12_robbed 126 = .ok (.iadd, 1) := by decide +kernel
theorem dX12_robbed_127 : decode cX12_robbed 127 = .ok (.iload 4, 2) := by decide +kernel
theorem dX12_robbed_129 : decode cX12_robbed 129 = .ok (.iastore, 1) := by decide +kernel
theorem dX12_robbed_130 : decode cX12_robbed 130 = .ok (.iinc 3 1, 3) := by decide +kernel
theorem dX12_robbed_133 : decode cX12_robbed 133 = .ok (.goto (-83), 3) := by decide +kernel
theorem dX12_robbed_136 : decode cX12_robbed 136 = .ok (.iload_n 2, 1) := by decide +kernel
theorem dX12_robbed_137 : decode cX12_robbed 137 = .ok (.ireturn, 1) := by decide +kernel
theorem dX12_nights_0 : decode cX12_nights 0 = .ok (.aload_n 0, 1) := by decide +kernel
theorem dX12_nights_1 : decode cX12_nights 1 = .ok (.iload_n 1, 1) := by decide +kernel
theorem dX12_nights_2 : decode cX12_nights 2 = .ok (.iconst 1, 1) := by decide +kernel
theorem dX12_nights_3 : decode cX12_nights 3 = .ok (.invokevirtual 510, 3) := by decide +kernel
theorem dX12_nights_6 : decode cX12_nights 6 = .ok (.ifCond .ne 9, 3) := by decide +kernel
theorem dX12_nights_9 : decode cX12_nights 9 = .ok (.aload_n 0, 1) := by decide +kernel
theorem dX12_nights_10 : decode cX12_nights 10 = .ok (.iconst 2, 1) := by decide +kernel
theorem dX12_nights_11 : decode cX12_nights 11 = .ok (.invokevirtual 229, 3) := by decide +kernel
theorem dX12_nights_14 : decode cX12_nights 14 = .ok (.ireturn, 1) := by decide +kernel
theorem dX12_nights_15 : decode cX12_nights 15 = .ok (.aload_n 0, 1) := by decide +kernel
theorem dX12_nights_16 : decode cX12_nights 16 = .ok (.invokevirtual 548, 3) := by decide +kernel
theorem dX12_nights_19 : decode cX12_nights 19 = .ok (.iconst 0, 1) := by decide +kernel
theorem dX12_nights_20 : decode cX12_nights 20 = .ok (.istore_n 2, 1) := by decide +kernel
theorem dX12_nights_21 : decode cX12_nights 21 = .ok (.iconst 0, 1) := by decide +kernel
theorem dX12_nights_22 : decode cX12_nights 22 = .ok (.istore_n 3, 1) := by decide +kernel
theorem dX12_nights_23 : decode cX12_nights 23 = .ok (.iload_n 3, 1) := by decide +kernel
theorem dX12_nights_24 : decode cX12_nights 24 = .ok (.iload_n 1, 1) := by decide +kernel
theorem dX12_nights_25 : decode cX12_nights 25 = .ok (.if_icmp .ge 18, 3) := by decide +kernel
theorem dX12_nights_28 : decode cX12_nights 28 = .ok (.iload_n 2, 1) := by decide +kernel
theorem dX12_nights_29 : decode cX12_nights 29 = .ok (.aload_n 0, 1) := by decide +kernel
theorem dX12_nights_30 : decode cX12_nights 30 = .ok (.iconst 0, 1) := by decide +kernel
theorem dX12_nights_31 : decode cX12_nights 31 = .ok (.iconst 0, 1) := by decide +kernel
theorem dX12_nights_32 : decode cX12_nights 32 = .ok (.invokevirtual 513, 3) := by decide +kernel
theorem dX12_nights_35 : decode cX12_nights 35 = .ok (.iadd, 1) := by decide +kernel
theorem dX12_nights_36 : decode cX12_nights 36 = .ok (.istore_n 2, 1) := by decide +kernel
theorem dX12_nights_37 : decode cX12_nights 37 = .ok (.iinc 3 1, 3) := by decide +kernel
theorem dX12_nights_40 : decode cX12_nights 40 = .ok (.goto (-17), 3) := by decide +kernel
theorem dX12_nights_43 : decode cX12_nights 43 = .ok (.iload_n 2, 1) := by decide +kernel
theorem dX12_nights_44 : decode cX12_nights 44 = .ok (.ireturn, 1) := by decide +kernel
theorem dX12_draw_0 : decode cX12_draw 0 = .ok (.aload_n 0, 1) := by decide +kernel
theorem dX12_draw_1 : decode cX12_draw 1 = .ok (.ldc2_w 551, 3) := by decide +kernel
theorem dX12_draw_4 : decode cX12_draw 4 = .ok (.aload_n 0, 1) := by decide +kernel
theorem dX12_draw_5 : decode cX12_draw 5 = .ok (.getfield 180, 3) := by decide +kernel
theorem dX12_draw_8 : decode cX12_draw 8 = .ok (.lmul, 1) := by decide +kernel
theorem dX12_draw_9 : decode cX12_draw 9 = .ok (.ldc2_w 553, 3) := by decide +kernel
theorem dX12_draw_12 : decode cX12_draw 12 = .ok (.ladd, 1) := by decide +kernel
theorem dX12_draw_13 : decode cX12_draw 13 = .ok (.ldc2_w 555, 3) := by decide +kernel
theorem dX12_draw_16 : decode cX12_draw 16 = .ok (.lrem, 1) := by decide +kernel
theorem dX12_draw_17 : decode cX12_draw 17 = .ok (.putfield 180, 3) := by decide +kernel
theorem dX12_draw_20 : decode cX12_draw 20 = .ok (.aload_n 0, 1) := by decide +kernel
theorem dX12_draw_21 : decode cX12_draw 21 = .ok (.getfield 180, 3) := by decide +kernel
theorem dX12_draw_24 : decode cX12_draw 24 = .ok (.ldc2_w 557, 3) := by decide +kernel
theorem dX12_draw_27 : decode cX12_draw 27 = .ok (.ldiv, 1) := by decide +kernel
theorem dX12_draw_28 : decode cX12_draw 28 = .ok (.iload_n 1, 1) := by decide +kernel
theorem dX12_draw_29 : decode cX12_draw 29 = .ok (.i2l, 1) := by decide +kernel
theorem dX12_draw_30 : decode cX12_draw 30 = .ok (.lrem, 1) := by decide +kernel
theorem dX12_draw_31 : decode cX12_draw 31 = .ok (.l2i, 1) := by decide +kernel
theorem dX12_draw_32 : decode cX12_draw 32 = .ok (.ireturn, 1) := by decide +kernel
theorem dX12_chance_0 : decode cX12_chance 0 = .ok (.aload_n 0, 1) := by decide +kernel
theorem dX12_chance_1 : decode cX12_chance 1 = .ok (.iload_n 1, 1) := by decide +kernel
theorem dX12_chance_2 : decode cX12_chance 2 = .ok (.iconst 1, 1) := by decide +kernel
theorem dX12_chance_3 : decode cX12_chance 3 = .ok (.invokevirtual 510, 3) := by decide +kernel
theorem dX12_chance_6 : decode cX12_chance 6 = .ok (.ifCond .ne 9, 3) := by decide +kernel
theorem dX12_chance_9 : decode cX12_chance 9 = .ok (.aload_n 0, 1) := by decide +kernel
theorem dX12_chance_10 : decode cX12_chance 10 = .ok (.iconst 2, 1) := by decide +kernel
theorem dX12_chance_11 : decode cX12_chance 11 = .ok (.invokevirtual 229, 3) := by decide +kernel
theorem dX12_chance_14 : decode cX12_chance 14 = .ok (.ireturn, 1) := by decide +kernel
theorem dX12_chance_15 : decode cX12_chance 15 = .ok (.aload_n 0, 1) := by decide +kernel
theorem dX12_chance_16 : decode cX12_chance 16 = .ok (.invokevirtual 548, 3) := by decide +kernel
theorem dX12_chance_19 : decode cX12_chance 19 = .ok (.iconst 0, 1) := by decide +kernel
theorem dX12_chance_20 : decode cX12_chance 20 = .ok (.istore_n 2, 1) := by decide +kernel
theorem dX12_chance_21 : decode cX12_chance 21 = .ok (.iconst 0, 1) := by decide +kernel
theorem dX12_chance_22 : decode cX12_chance 22 = .ok (.istore_n 3, 1) := by decide +kernel
theorem dX12_chance_23 : decode cX12_chance 23 = .ok (.iload_n 3, 1) := by decide +kernel
theorem dX12_chance_24 : decode cX12_chance 24 = .ok (.iload_n 1, 1) := by decide +kernel
theorem dX12_chance_25 : decode cX12_chance 25 = .ok (.if_icmp .ge 55, 3) := by decide +kernel
theorem dX12_chance_28 : decode cX12_chance 28 = .ok (.aload_n 0, 1) := by decide +kernel
theorem dX12_chance_29 : decode cX12_chance 29 = .ok (.bipush 100, 2) := by decide +kernel
theorem dX12_chance_31 : decode cX12_chance 31 = .ok (.invokevirtual 559, 3) := by decide +kernel
theorem dX12_chance_34 : decode cX12_chance 34 = .ok (.aload_n 0, 1) := by decide +kernel
theorem dX12_chance_35 : decode cX12_chance 35 = .ok (.getfield 81, 3) := by decide +kernel
theorem dX12_chance_38 : decode cX12_chance 38 = .ok (.aload_n 0, 1) := by decide +kernel
theorem dX12_chance_39 : decode cX12_chance 39 = .ok (.getfield 51, 3) := by decide +kernel
theorem dX12_chance_42 : decode cX12_chance 42 = .ok (.iaload, 1) := by decide +kernel
theorem dX12_chance_43 : decode cX12_chance 43 = .ok (.if_icmp .ge 7, 3) := by decide +kernel
theorem dX12_chance_46 : decode cX12_chance 46 = .ok (.iconst 1, 1) := by decide +kernel
theorem dX12_chance_47 : decode cX12_chance 47 = .ok (.goto 4, 3) := by decide +kernel
theorem dX12_chance_50 : decode cX12_chance 50 = .ok (.iconst 0, 1) := by decide +kernel
theorem dX12_chance_51 : decode cX12_chance 51 = .ok (.istore 4, 2) := by decide +kernel
theorem dX12_chance_53 : decode cX12_chance 53 = .ok (.iload_n 2, 1) := by decide +kernel
theorem dX12_chance_54 : decode cX12_chance 54 = .ok (.iload 4, 2) := by decide +kernel
theorem dX12_chance_56 : decode cX12_chance 56 = .ok (.ifCond .eq 7, 3) := by decide +kernel
theorem dX12_chance_59 : decode cX12_chance 59 = .ok (.iconst 1, 1) := by decide +kernel
theorem dX12_chance_60 : decode cX12_chance 60 = .ok (.goto 4, 3) := by decide +kernel
theorem dX12_chance_63 : decode cX12_chance 63 = .ok (.iconst 0, 1) := by decide +kernel
theorem dX12_chance_64 : decode cX12_chance 64 = .ok (.iadd, 1) := by decide +kernel
theorem dX12_chance_65 : decode cX12_chance 65 = .ok (.istore_n 2, 1) := by decide +kernel
theorem dX12_chance_66 : decode cX12_chance 66 = .ok (.aload_n 0, 1) := by decide +kernel
theorem dX12_chance_67 : decode cX12_chance 67 = .ok (.iconst 0, 1) := by decide +kernel
theorem dX12_chance_68 : decode cX12_chance 68 = .ok (.iload 4, 2) := by decide +kernel
theorem dX12_chance_70 : decode cX12_chance 70 = .ok (.invokevirtual 513, 3) := by decide +kernel
theorem dX12_chance_73 : decode cX12_chance 73 = .ok (.pop, 1) := by decide +kernel
theorem dX12_chance_74 : decode cX12_chance 74 = .ok (.iinc 3 1, 3) := by decide +kernel
theorem dX12_chance_77 : decode cX12_chance 77 = .ok (.goto (-54), 3) := by decide +kernel
theorem dX12_chance_80 : decode cX12_chance 80 = .ok (.iload_n 2, 1) := by decide +kernel
theorem dX12_chance_81 : decode cX12_chance 81 = .ok (.ireturn, 1) := by decide +kernel
theorem dX12_move_0 : decode cX12_move 0 = .ok (.aload_n 0, 1) := by decide +kernel
theorem dX12_move_1 : decode cX12_move 1 = .ok (.iload_n 1, 1) := by decide +kernel
theorem dX12_move_2 : decode cX12_move 2 = .ok (.invokevirtual 501, 3) := by decide +kernel
theorem dX12_move_5 : decode cX12_move 5 = .ok (.ifCond .eq 21, 3) := by decide +kernel
theorem dX12_move_8 : decode cX12_move 8 = .ok (.aload_n 0, 1) := by decide +kernel
theorem dX12_move_9 : decode cX12_move 9 = .ok (.iload_n 2, 1) := by decide +kernel
theorem dX12_move_10 : decode cX12_move 10 = .ok (.invokevirtual 498, 3) := by decide +kernel
theorem dX12_move_13 : decode cX12_move 13 = .ok (.ifCond .eq 13, 3) := by decide +kernel
theorem dX12_move_16 : decode cX12_move 16 = .ok (.aload_n 0, 1) := by decide +kernel
theorem dX12_move_17 : decode cX12_move 17 = .ok (.iconst 0, 1) := by decide +kernel
theorem dX12_move_18 : decode cX12_move 18 = .ok (.iload_n 1, 1) := by decide +kernel
theorem dX12_move_19 : decode cX12_move 19 = .ok (.iload_n 2, 1) := by decide +kernel
theorem dX12_move_20 : decode cX12_move 20 = .ok (.invokevirtual 523, 3) := by decide +kernel
theorem dX12_move_23 : decode cX12_move 23 = .ok (.ifCond .ne 17, 3) := by decide +kernel
theorem dX12_move_26 : decode cX12_move 26 = .ok (.aload_n 0, 1) := by decide +kernel
theorem dX12_move_27 : decode cX12_move 27 = .ok (.iconst 3, 1) := by decide +kernel
theorem dX12_move_28 : decode cX12_move 28 = .ok (.invokevirtual 229, 3) := by decide +kernel
theorem dX12_move_31 : decode cX12_move 31 = .ok (.ifCond .lt 7, 3) := by decide +kernel
theorem dX12_move_34 : decode cX12_move 34 = .ok (.iconst 1, 1) := by decide +kernel
theorem dX12_move_35 : decode cX12_move 35 = .ok (.goto 4, 3) := by decide +kernel
theorem dX12_move_38 : decode cX12_move 38 = .ok (.iconst 0, 1) := by decide +kernel
theorem dX12_move_39 : decode cX12_move 39 = .ok (.ireturn, 1) := by decide +kernel
theorem dX12_move_40 : decode cX12_move 40 = .ok (.aload_n 0, 1) := by decide +kernel
theorem dX12_move_41 : decode cX12_move 41 = .ok (.invokevirtual 548, 3) := by decide +kernel
theorem dX12_move_44 : decode cX12_move 44 = .ok (.aload_n 0, 1) := by decide +kernel
theorem dX12_move_45 : decode cX12_move 45 = .ok (.getfield 159, 3) := by decide +kernel
theorem dX12_move_48 : decode cX12_move 48 = .ok (.iload_n 1, 1) := by decide +kernel
theorem dX12_move_49 : decode cX12_move 49 = .ok (.iload_n 2, 1) := by decide +kernel
theorem dX12_move_50 : decode cX12_move 50 = .ok (.iastore, 1) := by decide +kernel
theorem dX12_move_51 : decode cX12_move 51 = .ok (.iconst 1, 1) := by decide +kernel
theorem dX12_move_52 : decode cX12_move 52 = .ok (.ireturn, 1) := by decide +kernel
theorem dX12_pour_0 : decode cX12_pour 0 = .ok (.aload_n 0, 1) := by decide +kernel
theorem dX12_pour_1 : decode cX12_pour 1 = .ok (.iload_n 1, 1) := by decide +kernel
theorem dX12_pour_2 : decode cX12_pour 2 = .ok (.invokevirtual 501, 3) := by decide +kernel
theorem dX12_pour_5 : decode cX12_pour 5 = .ok (.ifCond .eq 20, 3) := by decide +kernel
theorem dX12_pour_8 : decode cX12_pour 8 = .ok (.aload_n 0, 1) := by decide +kernel
theorem dX12_pour_9 : decode cX12_pour 9 = .ok (.iload_n 2, 1) := by decide +kernel
theorem dX12_pour_10 : decode cX12_pour 10 = .ok (.invokevirtual 501, 3) := by decide +kernel
theorem dX12_pour_13 : decode cX12_pour 13 = .ok (.ifCond .eq 12, 3) := by decide +kernel
theorem dX12_pour_16 : decode cX12_pour 16 = .ok (.iload_n 1, 1) := by decide +kernel
theorem dX12_pour_17 : decode cX12_pour 17 = .ok (.iload_n 2, 1) := by decide +kernel
theorem dX12_pour_18 : decode cX12_pour 18 = .ok (.if_icmp .eq 7, 3) := by decide +kernel
theorem dX12_pour_21 : decode cX12_pour 21 = .ok (.iconst 1, 1) := by decide +kernel
theorem dX12_pour_22 : decode cX12_pour 22 = .ok (.goto 4, 3) := by decide +kernel
theorem dX12_pour_25 : decode cX12_pour 25 = .ok (.iconst 0, 1) := by decide +kernel
theorem dX12_pour_26 : decode cX12_pour 26 = .ok (.istore_n 3, 1) := by decide +kernel
theorem dX12_pour_27 : decode cX12_pour 27 = .ok (.iload_n 3, 1) := by decide +kernel
theorem dX12_pour_28 : decode cX12_pour 28 = .ok (.ifCond .eq 74, 3) := by decide +kernel
theorem dX12_pour_31 : decode cX12_pour 31 = .ok (.aload_n 0, 1) := by decide +kernel
theorem dX12_pour_32 : decode cX12_pour 32 = .ok (.iconst 0, 1) := by decide +kernel
theorem dX12_pour_33 : decode cX12_pour 33 = .ok (.iload_n 1, 1) := by decide +kernel
theorem dX12_pour_34 : decode cX12_pour 34 = .ok (.invokevirtual 440, 3) := by decide +kernel
theorem dX12_pour_37 : decode cX12_pour 37 = .ok (.ifCond .le 65, 3) := by decide +kernel
theorem dX12_pour_40 : decode cX12_pour 40 = .ok (.aload_n 0, 1) := by decide +kernel
theorem dX12_pour_41 : decode cX12_pour 41 = .ok (.iconst 0, 1) := by decide +kernel
theorem dX12_pour_42 : decode cX12_pour 42 = .ok (.iload_n 2, 1) := by decide +kernel
theorem dX12_pour_43 : decode cX12_pour 43 = .ok (.invokevirtual 440, 3) := by decide +kernel
theorem dX12_pour_46 : decode cX12_pour 46 = .ok (.ifCond .le 56, 3) := by decide +kernel
theorem dX12_pour_49 : decode cX12_pour 49 = .ok (.aload_n 0, 1) := by decide +kernel
theorem dX12_pour_50 : decode cX12_pour 50 = .ok (.iconst 0, 1) := by decide +kernel
theorem dX12_pour_51 : decode cX12_pour 51 = .ok (.iload_n 1, 1) := by decide +kernel
theorem dX12_pour_52 : decode cX12_pour 52 = .ok (.invokevirtual 437, 3) := by decide +kernel
theorem dX12_pour_55 : decode cX12_pour 55 = .ok (.aload_n 0, 1) := by decide +kernel
theorem dX12_pour_56 : decode cX12_pour 56 = .ok (.iconst 0, 1) := by decide +kernel
theorem dX12_pour_57 : decode cX12_pour 57 = .ok (.iload_n 2, 1) := by decide +kernel
theorem dX12_pour_58 : decode cX12_pour 58 = .ok (.invokevirtual 437, 3) := by decide +kernel
theorem dX12_pour_61 : decode cX12_pour 61 = .ok (.if_icmp .ne 41, 3) := by decide +kernel
theorem dX12_pour_64 : decode cX12_pour 64 = .ok (.aload_n 0, 1) := by decide +kernel
theorem dX12_pour_65 : decode cX12_pour 65 = .ok (.iconst 0, 1) := by decide +kernel
theorem dX12_pour_66 : decode cX12_pour 66 = .ok (.iload_n 1, 1) := by decide +kernel
theorem dX12_pour_67 : decode cX12_pour 67 = .ok (.invokevirtual 473, 3) := by decide +kernel
theorem dX12_pour_70 : decode cX12_pour 70 = .ok (.aload_n 0, 1) := by decide +kernel
theorem dX12_pour_71 : decode cX12_pour 71 = .ok (.iconst 0, 1) := by decide +kernel
theorem dX12_pour_72 : decode cX12_pour 72 = .ok (.iload_n 2, 1) := by decide +kernel
theorem dX12_pour_73 : decode cX12_pour 73 = .ok (.invokevirtual 473, 3) := by decide +kernel
theorem dX12_pour_76 : decode cX12_pour 76 = .ok (.if_icmp .ne 26, 3) := by decide +kernel
theorem dX12_pour_79 : decode cX12_pour 79 = .ok (.aload_n 0, 1) := by decide +kernel
theorem dX12_pour_80 : decode cX12_pour 80 = .ok (.iconst 0, 1) := by decide +kernel
theorem dX12_pour_81 : decode cX12_pour 81 = .ok (.iload_n 1, 1) := by decide +kernel
theorem dX12_pour_82 : decode cX12_pour 82 = .ok (.invokevirtual 440, 3) := by decide +kernel
theorem dX12_pour_85 : decode cX12_pour 85 = .ok (.aload_n 0, 1) := by decide +kernel
theorem dX12_pour_86 : decode cX12_pour 86 = .ok (.iconst 0, 1) := by decide +kernel
theorem dX12_pour_87 : decode cX12_pour 87 = .ok (.iload_n 2, 1) := by decide +kernel
theorem dX12_pour_88 : decode cX12_pour 88 = .ok (.invokevirtual 440, 3) := by decide +kernel
theorem dX12_pour_91 : decode cX12_pour 91 = .ok (.iadd, 1) := by decide +kernel
theorem dX12_pour_92 : decode cX12_pour 92 = .ok (.sipush 999, 3) := by decide +kernel
theorem dX12_pour_95 : decode cX12_pour 95 = .ok (.if_icmp .gt 7, 3) := by decide +kernel
theorem dX12_pour_98 : decode cX12_pour 98 = .ok (.iconst 1, 1) := by decide +kernel
theorem dX12_pour_99 : decode cX12_pour 99 = .ok (.goto 4, 3) := by decide +kernel
theorem dX12_pour_102 : decode cX12_pour 102 = .ok (.iconst 0, 1) := by decide +kernel
theorem dX12_pour_103 : decode cX12_pour 103 = .ok (.istore_n 3, 1) := by decide +kernel
theorem dX12_pour_104 : decode cX12_pour 104 = .ok (.iload_n 3, 1) := by decide +kernel
theorem dX12_pour_105 : decode cX12_pour 105 = .ok (.ifCond .ne 9, 3) := by decide +kernel
theorem dX12_pour_108 : decode cX12_pour 108 = .ok (.aload_n 0, 1) := by decide +kernel
theorem dX12_pour_109 : decode cX12_pour 109 = .ok (.iconst 3, 1) := by decide +kernel
theorem dX12_pour_110 : decode cX12_pour 110 = .ok (.invokevirtual 229, 3) := by decide +kernel
theorem dX12_pour_113 : decode cX12_pour 113 = .ok (.ireturn, 1) := by decide +kernel
theorem dX12_pour_114 : decode cX12_pour 114 = .ok (.aload_n 0, 1) := by decide +kernel
theorem dX12_pour_115 : decode cX12_pour 115 = .ok (.invokevirtual 548, 3) := by decide +kernel
theorem dX12_pour_118 : decode cX12_pour 118 = .ok (.aload_n 0, 1) := by decide +kernel
theorem dX12_pour_119 : decode cX12_pour 119 = .ok (.getfield 156, 3) := by decide +kernel
theorem dX12_pour_122 : decode cX12_pour 122 = .ok (.iload_n 1, 1) := by decide +kernel
theorem dX12_pour_123 : decode cX12_pour 123 = .ok (.dup2, 1) := by decide +kernel
theorem dX12_pour_124 : decode cX12_pour 124 = .ok (.iaload, 1) := by decide +kernel
theorem dX12_pour_125 : decode cX12_pour 125 = .ok (.aload_n 0, 1) := by decide +kernel
theorem dX12_pour_126 : decode cX12_pour 126 = .ok (.getfield 156, 3) := by decide +kernel
theorem dX12_pour_129 : decode cX12_pour 129 = .ok (.iload_n 2, 1) := by decide +kernel
theorem dX12_pour_130 : decode cX12_pour 130 = .ok (.iaload, 1) := by decide +kernel
theorem dX12_pour_131 : decode cX12_pour 131 = .ok (.iadd, 1) := by decide +kernel
theorem dX12_pour_132 : decode cX12_pour 132 = .ok (.iastore, 1) := by decide +kernel
theorem dX12_pour_133 : decode cX12_pour 133 = .ok (.aload_n 0, 1) := by decide +kernel
theorem dX12_pour_134 : decode cX12_pour 134 = .ok (.iconst 0, 1) := by decide +kernel
theorem dX12_pour_135 : decode cX12_pour 135 = .ok (.iload_n 2, 1) := by decide +kernel
theorem dX12_pour_136 : decode cX12_pour 136 = .ok (.iconst 0, 1) := by decide +kernel
theorem dX12_pour_137 : decode cX12_pour 137 = .ok (.invokevirtual 470, 3) := by decide +kernel
theorem dX12_pour_140 : decode cX12_pour 140 = .ok (.aload_n 0, 1) := by decide +kernel
theorem dX12_pour_141 : decode cX12_pour 141 = .ok (.getfield 156, 3) := by decide +kernel
theorem dX12_pour_144 : decode cX12_pour 144 = .ok (.iload_n 1, 1) := by decide +kernel
theorem dX12_pour_145 : decode cX12_pour 145 = .ok (.iaload, 1) := by decide +kernel
theorem dX12_pour_146 : decode cX12_pour 146 = .ok (.ireturn, 1) := by decide +kernel
theorem dX12_part_0 : decode cX12_part 0 = .ok (.iconst 0, 1) := by decide +kernel
theorem dX12_part_1 : decode cX12_part 1 = .ok (.istore_n 3, 1) := by decide +kernel
theorem dX12_part_2 : decode cX12_part 2 = .ok (.iload_n 3, 1) := by decide +kernel
theorem dX12_part_3 : decode cX12_part 3 = .ok (.aload_n 0, 1) := by decide +kernel
theorem dX12_part_4 : decode cX12_part 4 = .ok (.getfield 66, 3) := by decide +kernel
theorem dX12_part_7 : decode cX12_part 7 = .ok (.aload_n 0, 1) := by decide +kernel
theorem dX12_part_8 : decode cX12_part 8 = .ok (.getfield 51, 3) := by decide +kernel
theorem dX12_part_11 : decode cX12_part 11 = .ok (.iaload, 1) := by decide +kernel
theorem dX12_part_12 : decode cX12_part 12 = .ok (.if_icmp .ge 18, 3) := by decide +kernel
theorem dX12_part_15 : decode cX12_part 15 = .ok (.aload_n 0, 1) := by decide +kernel
theorem dX12_part_16 : decode cX12_part 16 = .ok (.iconst 0, 1) := by decide +kernel
theorem dX12_part_17 : decode cX12_part 17 = .ok (.iload_n 3, 1) := by decide +kernel
theorem dX12_part_18 : decode cX12_part 18 = .ok (.invokevirtual 440, 3) := by decide +kernel
theorem dX12_part_21 : decode cX12_part 21 = .ok (.ifCond .le 9, 3) := by decide +kernel
theorem dX12_part_24 : decode cX12_part 24 = .ok (.iinc 3 1, 3) := by decide +kernel
theorem dX12_part_27 : decode cX12_part 27 = .ok (.goto (-25), 3) := by decide +kernel
theorem dX12_part_30 : decode cX12_part 30 = .ok (.aload_n 0, 1) := by decide +kernel
theorem dX12_part_31 : decode cX12_part 31 = .ok (.iload_n 1, 1) := by decide +kernel
theorem dX12_part_32 : decode cX12_part 32 = .ok (.invokevirtual 501, 3) := by decide +kernel
theorem dX12_part_35 : decode cX12_part 35 = .ok (.ifCond .eq 32, 3) := by decide +kernel
theorem dX12_part_38 : decode cX12_part 38 = .ok (.iload_n 3, 1) := by decide +kernel
theorem dX12_part_39 : decode cX12_part 39 = .ok (.aload_n 0, 1) := by decide +kernel
theorem dX12_part_40 : decode cX12_part 40 = .ok (.getfield 66, 3) := by decide +kernel
theorem dX12_part_43 : decode cX12_part 43 = .ok (.aload_n 0, 1) := by decide +kernel
theorem dX12_part_44 : decode cX12_part 44 = .ok (.getfield 51, 3) := by decide +kernel
theorem dX12_part_47 : decode cX12_part 47 = .ok (.iaload, 1) := by decide +kernel
theorem dX12_part_48 : decode cX12_part 48 = .ok (.if_icmp .eq 19, 3) := by decide +kernel
theorem dX12_part_51 : decode cX12_part 51 = .ok (.iload_n 2, 1) := by decide +kernel
theorem dX12_part_52 : decode cX12_part 52 = .ok (.iconst 1, 1) := by decide +kernel
theorem dX12_part_53 : decode cX12_part 53 = .ok (.aload_n 0, 1) := by decide +kernel
theorem dX12_part_54 : decode cX12_part 54 = .ok (.iconst 0, 1) := by decide +kernel
theorem dX12_part_55 : decode cX12_part 55 = .ok (.iload_n 1, 1) := by decide +kernel
theorem dX12_part_56 : decode cX12_part 56 = .ok (.invokevirtual 440, 3) := by decide +kernel
theorem dX12_part_59 : decode cX12_part 59 = .ok (.iconst 1, 1) := by decide +kernel
theorem dX12_part_60 : decode cX12_part 60 = .ok (.isub, 1) := by decide +kernel
theorem dX12_part_61 : decode cX12_part 61 = .ok (.invokestatic 319, 3) := by decide +kernel
theorem dX12_part_64 : decode cX12_part 64 = .ok (.ifCond .ne 9, 3) := by decide +kernel
theorem dX12_part_67 : decode cX12_part 67 = .ok (.aload_n 0, 1) := by decide +kernel
theorem dX12_part_68 : decode cX12_part 68 = .ok (.iconst 3, 1) := by decide +kernel
theorem dX12_part_69 : decode cX12_part 69 = .ok (.invokevirtual 229, 3) := by decide +kernel
theorem dX12_part_72 : decode cX12_part 72 = .ok (.ireturn, 1) := by decide +kernel
theorem dX12_part_73 : decode cX12_part 73 = .ok (.aload_n 0, 1) := by decide +kernel
theorem dX12_part_74 : decode cX12_part 74 = .ok (.invokevirtual 548, 3) := by decide +kernel
theorem dX12_part_77 : decode cX12_part 77 = .ok (.aload_n 0, 1) := by decide +kernel
theorem dX12_part_78 : decode cX12_part 78 = .ok (.getfield 156, 3) := by decide +kernel
theorem dX12_part_81 : decode cX12_part 81 = .ok (.iload_n 1, 1) := by decide +kernel
theorem dX12_part_82 : decode cX12_part 82 = .ok (.dup2, 1) := by decide +kernel
theorem dX12_part_83 : decode cX12_part 83 = .ok (.iaload, 1) := by decide +kernel
theorem dX12_part_84 : decode cX12_part 84 = .ok (.iload_n 2, 1) := by decide +kernel
theorem dX12_part_85 : decode cX12_part 85 = .ok (.isub, 1) := by decide +kernel
theorem dX12_part_86 : decode cX12_part 86 = .ok (.iastore, 1) := by decide +kernel
theorem dX12_part_87 : decode cX12_part 87 = .ok (.aload_n 0, 1) := by decide +kernel
theorem dX12_part_88 : decode cX12_part 88 = .ok (.getfield 156, 3) := by decide +kernel
theorem dX12_part_91 : decode cX12_part 91 = .ok (.iload_n 3, 1) := by decide +kernel
theorem dX12_part_92 : decode cX12_part 92 = .ok (.iload_n 2, 1) := by decide +kernel
theorem dX12_part_93 : decode cX12_part 93 = .ok (.iastore, 1) := by decide +kernel
theorem dX12_part_94 : decode cX12_part 94 = .ok (.aload_n 0, 1) := by decide +kernel
theorem dX12_part_95 : decode cX12_part 95 = .ok (.getfield 159, 3) := by decide +kernel
theorem dX12_part_98 : decode cX12_part 98 = .ok (.iload_n 3, 1) := by decide +kernel
theorem dX12_part_99 : decode cX12_part 99 = .ok (.aload_n 0, 1) := by decide +kernel
theorem dX12_part_100 : decode cX12_part 100 = .ok (.getfield 159, 3) := by decide +kernel
theorem dX12_part_103 : decode cX12_part 103 = .ok (.iload_n 1, 1) := by decide +kernel
theorem dX12_part_104 : decode cX12_part 104 = .ok (.iaload, 1) := by decide +kernel
theorem dX12_part_105 : decode cX12_part 105 = .ok (.iastore, 1) := by decide +kernel
theorem dX12_part_106 : decode cX12_part 106 = .ok (.aload_n 0, 1) := by decide +kernel
theorem dX12_part_107 : decode cX12_part 107 = .ok (.getfield 162, 3) := by decide +kernel
theorem dX12_part_110 : decode cX12_part 110 = .ok (.iload_n 3, 1) := by decide +kernel
theorem dX12_part_111 : decode cX12_part 111 = .ok (.aload_n 0, 1) := by decide +kernel
theorem dX12_part_112 : decode cX12_part 112 = .ok (.getfield 162, 3) := by decide +kernel
theorem dX12_part_115 : decode cX12_part 115 = .ok (.iload_n 1, 1) := by decide +kernel
theorem dX12_part_116 : decode cX12_part 116 = .ok (.iaload, 1) := by decide +kernel
theorem dX12_part_117 : decode cX12_part 117 = .ok (.iastore, 1) := by decide +kernel
theorem dX12_part_118 : decode cX12_part 118 = .ok (.iload_n 3, 1) := by decide +kernel
theorem dX12_part_119 : decode cX12_part 119 = .ok (.ireturn, 1) := by decide +kernel
theorem dX12_writesDown_0 : decode cX12_writesDown 0 = .ok (.aload_n 0, 1) := by decide +kernel
theorem dX12_writesDown_1 : decode cX12_writesDown 1 = .ok (.getfield 168, 3) := by decide +kernel
theorem dX12_writesDown_4 : decode cX12_writesDown 4 = .ok (.iconst 0, 1) := by decide +kernel
theorem dX12_writesDown_5 : decode cX12_writesDown 5 = .ok (.iaload, 1) := by decide +kernel
theorem dX12_writesDown_6 : decode cX12_writesDown 6 = .ok (.bipush 40, 2) := by decide +kernel
theorem dX12_writesDown_8 : decode cX12_writesDown 8 = .ok (.if_icmp .ne 46, 3) := by decide +kernel
theorem dX12_writesDown_11 : decode cX12_writesDown 11 = .ok (.iconst 0, 1) := by decide +kernel
theorem dX12_writesDown_12 : decode cX12_writesDown 12 = .ok (.istore 4, 2) := by decide +kernel
theorem dX12_writesDown_14 : decode cX12_writesDown 14 = .ok (.iload 4, 2) := by decide +kernel
theorem dX12_writesDown_16 : decode cX12_writesDown 16 = .ok (.sipush 156, 3) := by decide +kernel
theorem dX12_writesDown_19 : decode cX12_writesDown 19 = .ok (.if_icmp .ge 25, 3) := by decide +kernel
theorem dX12_writesDown_22 : decode cX12_writesDown 22 = .ok (.aload_n 0, 1) := by decide +kernel
theorem dX12_writesDown_23 : decode cX12_writesDown 23 = .ok (.getfield 171, 3) := by decide +kernel
theorem dX12_writesDown_26 : decode cX12_writesDown 26 = .ok (.iload 4, 2) := by decide +kernel
theorem dX12_writesDown_28 : decode cX12_writesDown 28 = .ok (.aload_n 0, 1) := by decide +kernel
theorem dX12_writesDown_29 : decode cX12_writesDown 29 = .ok (.getfield 171, 3) := by decide +kernel
theorem dX12_writesDown_32 : decode cX12_writesDown 32 = .ok (.iload 4, 2) := by decide +kernel
theorem dX12_writesDown_34 : decode cX12_writesDown 34 = .ok (.iconst 4, 1) := by decide +kernel
theorem dX12_writesDown_35 : decode cX12_writesDown 35 = .ok (.iadd, 1) := by decide +kernel
theorem dX12_writesDown_36 : decode cX12_writesDown 36 = .ok (.iaload, 1) := by decide +kernel
theorem dX12_writesDown_37 : decode cX12_writesDown 37 = .ok (.iastore, 1) := by decide +kernel
theorem dX12_writesDown_38 : decode cX12_writesDown 38 = .ok (.iinc 4 1, 3) := by decide +kernel
theorem dX12_writesDown_41 : decode cX12_writesDown 41 = .ok (.goto (-27), 3) := by decide +kernel
theorem dX12_writesDown_44 : decode cX12_writesDown 44 = .ok (.aload_n 0, 1) := by decide +kernel
theorem dX12_writesDown_45 : decode cX12_writesDown 45 = .ok (.getfield 168, 3) := by decide +kernel
theorem dX12_writesDown_48 : decode cX12_writesDown 48 = .ok (.iconst 0, 1) := by decide +kernel
theorem dX12_writesDown_49 : decode cX12_writesDown 49 = .ok (.dup2, 1) := by decide +kernel
theorem dX12_writesDown_50 : decode cX12_writesDown 50 = .ok (.iaload, 1) := by decide +kernel
theorem dX12_writesDown_51 : decode cX12_writesDown 51 = .ok (.iconst 1, 1) := by decide +kernel
theorem dX12_writesDown_52 : decode cX12_writesDown 52 = .ok (.isub, 1) := by decide +kernel
theorem dX12_writesDown_53 : decode cX12_writesDown 53 = .ok (.iastore, 1) := by decide +kernel
theorem dX12_writesDown_54 : decode cX12_writesDown 54 = .ok (.iconst 4, 1) := by decide +kernel
theorem dX12_writesDown_55 : decode cX12_writesDown 55 = .ok (.aload_n 0, 1) := by decide +kernel
theorem dX12_writesDown_56 : decode cX12_writesDown 56 = .ok (.getfield 168, 3) := by decide +kernel
theorem dX12_writesDown_59 : decode cX12_writesDown 59 = .ok (.iconst 0, 1) := by decide +kernel
theorem dX12_writesDown_60 : decode cX12_writesDown 60 = .ok (.iaload, 1) := by decide +kernel
theorem dX12_writesDown_61 : decode cX12_writesDown 61 = .ok (.imul, 1) := by decide +kernel
theorem dX12_writesDown_62 : decode cX12_writesDown 62 = .ok (.istore 4, 2) := by decide +kernel
theorem dX12_writesDown_64 : decode cX12_writesDown 64 = .ok (.aload_n 0, 1) := by decide +kernel
theorem dX12_writesDown_65 : decode cX12_writesDown 65 = .ok (.getfield 171, 3) := by decide +kernel
theorem dX12_writesDown_68 : decode cX12_writesDown 68 = .ok (.iload 4, 2) := by decide +kernel
theorem dX12_writesDown_70 : decode cX12_writesDown 70 = .ok (.aload_n 0, 1) := by decide +kernel
theorem dX12_writesDown_71 : decode cX12_writesDown 71 = .ok (.getfield 153, 3) := by decide +kernel
theorem dX12_writesDown_74 : decode cX12_writesDown 74 = .ok (.iconst 0, 1) := by decide +kernel
theorem dX12_writesDown_75 : decode cX12_writesDown 75 = .ok (.iaload, 1) := by decide +kernel
theorem dX12_writesDown_76 : decode cX12_writesDown 76 = .ok (.iastore, 1) := by decide +kernel
theorem dX12_writesDown_77 : decode cX12_writesDown 77 = .ok (.aload_n 0, 1) := by decide +kernel
theorem dX12_writesDown_78 : decode cX12_writesDown 78 = .ok (.getfield 171, 3) := by decide +kernel
theorem dX12_writesDown_81 : decode cX12_writesDown 81 = .ok (.iload 4, 2) := by decide +kernel
theorem dX12_writesDown_83 : decode cX12_writesDown 83 = .ok (.iconst 1, 1) := by decide +kernel
theorem dX12_writesDown_84 : decode cX12_writesDown 84 = .ok (.iadd, 1) := by decide +kernel
theorem dX12_writesDown_85 : decode cX12_writesDown 85 = .ok (.iload_n 1, 1) := by decide +kernel
theorem dX12_writesDown_86 : decode cX12_writesDown 86 = .ok (.iastore, 1) := by decide +kernel
theorem dX12_writesDown_87 : decode cX12_writesDown 87 = .ok (.aload_n 0, 1) := by decide +kernel
theorem dX12_writesDown_88 : decode cX12_writesDown 88 = .ok (.getfield 171, 3) := by decide +kernel
theorem dX12_writesDown_91 : decode cX12_writesDown 91 = .ok (.iload 4, 2) := by decide +kernel
theorem dX12_writesDown_93 : decode cX12_writesDown 93 = .ok (.iconst 2, 1) := by decide +kernel
theorem dX12_writesDown_94 : decode cX12_writesDown 94 = .ok (.iadd, 1) := by decide +kernel
theorem dX12_writesDown_95 : decode cX12_writesDown 95 = .ok (.iload_n 2, 1) := by decide +kernel
theorem dX12_writesDown_96 : decode cX12_writesDown 96 = .ok (.iastore, 1) := by decide +kernel
theorem dX12_writesDown_97 : decode cX12_writesDown 97 = .ok (.aload_n 0, 1) := by decide +kernel
theorem dX12_writesDown_98 : decode cX12_writesDown 98 = .ok (.getfield 171, 3) := by decide +kernel
theorem dX12_writesDown_101 : decode cX12_writesDown 101 = .ok (.iload 4, 2) := by decide +kernel
theorem dX12_writesDown_103 : decode cX12_writesDown 103 = .ok (.iconst 3, 1) := by decide +kernel
theorem dX12_writesDown_104 : decode cX12_writesDown 104 = .ok (.iadd, 1) := by decide +kernel
theorem dX12_writesDown_105 : decode cX12_writesDown 105 = .ok (.iload_n 3, 1) := by decide +kernel
theorem dX12_writesDown_106 : decode cX12_writesDown 106 = .ok (.iastore, 1) := by decide +kernel
theorem dX12_writesDown_107 : decode cX12_writesDown 107 = .ok (.aload_n 0, 1) := by decide +kernel
theorem dX12_writesDown_108 : decode cX12_writesDown 108 = .ok (.getfield 168, 3) := by decide +kernel
theorem dX12_writesDown_111 : decode cX12_writesDown 111 = .ok (.iconst 0, 1) := by decide +kernel
theorem dX12_writesDown_112 : decode cX12_writesDown 112 = .ok (.dup2, 1) := by decide +kernel
theorem dX12_writesDown_113 : decode cX12_writesDown 113 = .ok (.iaload, 1) := by decide +kernel
theorem dX12_writesDown_114 : decode cX12_writesDown 114 = .ok (.iconst 1, 1) := by decide +kernel
theorem dX12_writesDown_115 : decode cX12_writesDown 115 = .ok (.iadd, 1) := by decide +kernel
theorem dX12_writesDown_116 : decode cX12_writesDown 116 = .ok (.iastore, 1) := by decide +kernel
theorem dX12_writesDown_117 : decode cX12_writesDown 117 = .ok (.return_, 1) := by decide +kernel
theorem dX12_pay_0 : decode cX12_pay 0 = .ok (.aload_n 0, 1) := by decide +kernel
theorem dX12_pay_1 : decode cX12_pay 1 = .ok (.iload_n 1, 1) := by decide +kernel
theorem dX12_pay_2 : decode cX12_pay 2 = .ok (.invokevirtual 504, 3) := by decide +kernel
theorem dX12_pay_5 : decode cX12_pay 5 = .ok (.ifCond .eq 33, 3) := by decide +kernel
theorem dX12_pay_8 : decode cX12_pay 8 = .ok (.aload_n 0, 1) := by decide +kernel
theorem dX12_pay_9 : decode cX12_pay 9 = .ok (.iload_n 2, 1) := by decide +kernel
theorem dX12_pay_10 : decode cX12_pay 10 = .ok (.invokevirtual 504, 3) := by decide +kernel
theorem dX12_pay_13 : decode cX12_pay 13 = .ok (.ifCond .eq 25, 3) := by decide +kernel
theorem dX12_pay_16 : decode cX12_pay 16 = .ok (.iload_n 1, 1) := by decide +kernel
theorem dX12_pay_17 : decode cX12_pay 17 = .ok (.iload_n 2, 1) := by decide +kernel
theorem dX12_pay_18 : decode cX12_pay 18 = .ok (.if_icmp .eq 20, 3) := by decide +kernel
theorem dX12_pay_21 : decode cX12_pay 21 = .ok (.iload_n 3, 1) := by decide +kernel
theorem dX12_pay_22 : decode cX12_pay 22 = .ok (.ifCond .le 16, 3) := by decide +kernel
theorem dX12_pay_25 : decode cX12_pay 25 = .ok (.iload_n 3, 1) := by decide +kernel
theorem dX12_pay_26 : decode cX12_pay 26 = .ok (.aload_n 0, 1) := by decide +kernel
theorem dX12_pay_27 : decode cX12_pay 27 = .ok (.iconst 0, 1) := by decide +kernel
theorem dX12_pay_28 : decode cX12_pay 28 = .ok (.iload_n 1, 1) := by decide +kernel
theorem dX12_pay_29 : decode cX12_pay 29 = .ok (.invokevirtual 486, 3) := by decide +kernel
theorem dX12_pay_32 : decode cX12_pay 32 = .ok (.iconst (-1), 1) := by decide +kernel
theorem dX12_pay_33 : decode cX12_pay 33 = .ok (.ixor, 1) := by decide +kernel
theorem dX12_pay_34 : decode cX12_pay 34 = .ok (.iand, 1) := by decide +kernel
theorem dX12_pay_35 : decode cX12_pay 35 = .ok (.ifCond .eq 9, 3) := by decide +kernel
theorem dX12_pay_38 : decode cX12_pay 38 = .ok (.aload_n 0, 1) := by decide +kernel
theorem dX12_pay_39 : decode cX12_pay 39 = .ok (.iconst 3, 1) := by decide +kernel
theorem dX12_pay_40 : decode cX12_pay 40 = .ok (.invokevirtual 229, 3) := by decide +kernel
theorem dX12_pay_43 : decode cX12_pay 43 = .ok (.ireturn, 1) := by decide +kernel
theorem dX12_pay_44 : decode cX12_pay 44 = .ok (.aload_n 0, 1) := by decide +kernel
theorem dX12_pay_45 : decode cX12_pay 45 = .ok (.iconst 0, 1) := by decide +kernel
theorem dX12_pay_46 : decode cX12_pay 46 = .ok (.iload_n 3, 1) := by decide +kernel
theorem dX12_pay_47 : decode cX12_pay 47 = .ok (.invokevirtual 489, 3) := by decide +kernel
theorem dX12_pay_50 : decode cX12_pay 50 = .ok (.istore 4, 2) := by decide +kernel
theorem dX12_pay_52 : decode cX12_pay 52 = .ok (.iload 4, 2) := by decide +kernel
theorem dX12_pay_54 : decode cX12_pay 54 = .ok (.aload_n 0, 1) := by decide +kernel
theorem dX12_pay_55 : decode cX12_pay 55 = .ok (.iload_n 1, 1) := by decide +kernel
theorem dX12_pay_56 : decode cX12_pay 56 = .ok (.iload_n 2, 1) := by decide +kernel
theorem dX12_pay_57 : decode cX12_pay 57 = .ok (.invokevirtual 479, 3) := by decide +kernel
theorem dX12_pay_60 : decode cX12_pay 60 = .ok (.isub, 1) := by decide +kernel
theorem dX12_pay_61 : decode cX12_pay 61 = .ok (.istore 5, 2) := by decide +kernel
theorem dX12_pay_63 : decode cX12_pay 63 = .ok (.iload 5, 2) := by decide +kernel
theorem dX12_pay_65 : decode cX12_pay 65 = .ok (.ifCond .le 24, 3) := by decide +kernel
theorem dX12_pay_68 : decode cX12_pay 68 = .ok (.aload_n 0, 1) := by decide +kernel
theorem dX12_pay_69 : decode cX12_pay 69 = .ok (.iload_n 2, 1) := by decide +kernel
theorem dX12_pay_70 : decode cX12_pay 70 = .ok (.iload_n 1, 1) := by decide +kernel
theorem dX12_pay_71 : decode cX12_pay 71 = .ok (.invokevirtual 479, 3) := by decide +kernel
theorem dX12_pay_74 : decode cX12_pay 74 = .ok (.iload 5, 2) := by decide +kernel
theorem dX12_pay_76 : decode cX12_pay 76 = .ok (.iadd, 1) := by decide +kernel
theorem dX12_pay_77 : decode cX12_pay 77 = .ok (.sipush 9999, 3) := by decide +kernel
theorem dX12_pay_80 : decode cX12_pay 80 = .ok (.if_icmp .le 9, 3) := by decide +kernel
theorem dX12_pay_83 : decode cX12_pay 83 = .ok (.aload_n 0, 1) := by decide +kernel
theorem dX12_pay_84 : decode cX12_pay 84 = .ok (.iconst 3, 1) := by decide +kernel
theorem dX12_pay_85 : decode cX12_pay 85 = .ok (.invokevirtual 229, 3) := by decide +kernel
theorem dX12_pay_88 : decode cX12_pay 88 = .ok (.ireturn, 1) := by decide +kernel
theorem dX12_pay_89 : decode cX12_pay 89 = .ok (.aload_n 0, 1) := by decide +kernel
theorem dX12_pay_90 : decode cX12_pay 90 = .ok (.invokevirtual 548, 3) := by decide +kernel
theorem dX12_pay_93 : decode cX12_pay 93 = .ok (.aload_n 0, 1) := by decide +kernel
theorem dX12_pay_94 : decode cX12_pay 94 = .ok (.getfield 165, 3) := by decide +kernel
theorem dX12_pay_97 : decode cX12_pay 97 = .ok (.bipush 6, 2) := by decide +kernel
theorem dX12_pay_99 : decode cX12_pay 99 = .ok (.iload_n 1, 1) := by decide +kernel
theorem dX12_pay_100 : decode cX12_pay 100 = .ok (.imul, 1) := by decide +kernel
theorem dX12_pay_101 : decode cX12_pay 101 = .ok (.iload_n 2, 1) := by decide +kernel
theorem dX12_pay_102 : decode cX12_pay 102 = .ok (.iadd, 1) := by decide +kernel
theorem dX12_pay_103 : decode cX12_pay 103 = .ok (.iload 5, 2) := by decide +kernel
theorem dX12_pay_105 : decode cX12_pay 105 = .ok (.ifCond .le 7, 3) := by decide +kernel
theorem dX12_pay_108 : decode cX12_pay 108 = .ok (.iconst 0, 1) := by decide +kernel
theorem dX12_pay_109 : decode cX12_pay 109 = .ok (.goto 6, 3) := by decide +kernel
theorem dX12_pay_112 : decode cX12_pay 112 = .ok (.iload 5, 2) := by decide +kernel
theorem dX12_pay_114 : decode cX12_pay 114 = .ok (.ineg, 1) := by decide +kernel
theorem dX12_pay_115 : decode cX12_pay 115 = .ok (.iastore, 1) := by decide +kernel
theorem dX12_pay_116 : decode cX12_pay 116 = .ok (.aload_n 0, 1) := by decide +kernel
theorem dX12_pay_117 : decode cX12_pay 117 = .ok (.getfield 165, 3) := by decide +kernel
theorem dX12_pay_120 : decode cX12_pay 120 = .ok (.bipush 6, 2) := by decide +kernel
theorem dX12_pay_122 : decode cX12_pay 122 = .ok (.iload_n 2, 1) := by decide +kernel
theorem dX12_pay_123 : decode cX12_pay 123 = .ok (.imul, 1) := by decide +kernel
theorem dX12_pay_124 : decode cX12_pay 124 = .ok (.iload_n 1, 1) := by decide +kernel
theorem dX12_pay_125 : decode cX12_pay 125 = .ok (.iadd, 1) := by decide +kernel
theorem dX12_pay_126 : decode cX12_pay 126 = .ok (.dup2, 1) := by decide +kernel
theorem dX12_pay_127 : decode cX12_pay 127 = .ok (.iaload, 1) := by decide +kernel
theorem dX12_pay_128 : decode cX12_pay 128 = .ok (.iload 5, 2) := by decide +kernel
theorem dX12_pay_130 : decode cX12_pay 130 = .ok (.ifCond .le 8, 3) := by decide +kernel
theorem dX12_pay_133 : decode cX12_pay 133 = .ok (.iload 5, 2) := by decide +kernel
theorem dX12_pay_135 : decode cX12_pay 135 = .ok (.goto 4, 3) := by decide +kernel
theorem dX12_pay_138 : decode cX12_pay 138 = .ok (.iconst 0, 1) := by decide +kernel
theorem dX12_pay_139 : decode cX12_pay 139 = .ok (.iadd, 1) := by decide +kernel
theorem dX12_pay_140 : decode cX12_pay 140 = .ok (.iastore, 1) := by decide +kernel
theorem dX12_pay_141 : decode cX12_pay 141 = .ok (.iconst 0, 1) := by decide +kernel
theorem dX12_pay_142 : decode cX12_pay 142 = .ok (.istore 6, 2) := by decide +kernel
theorem dX12_pay_144 : decode cX12_pay 144 = .ok (.iload 6, 2) := by decide +kernel
theorem dX12_pay_146 : decode cX12_pay 146 = .ok (.aload_n 0, 1) := by decide +kernel
theorem dX12_pay_147 : decode cX12_pay 147 = .ok (.getfield 66, 3) := by decide +kernel
theorem dX12_pay_150 : decode cX12_pay 150 = .ok (.aload_n 0, 1) := by decide +kernel
theorem dX12_pay_151 : decode cX12_pay 151 = .ok (.getfield 51, 3) := by decide +kernel
theorem dX12_pay_154 : decode cX12_pay 154 = .ok (.iaload, 1) := by decide +kernel
theorem dX12_pay_155 : decode cX12_pay 155 = .ok (.if_icmp .ge 26, 3) := by decide +kernel
theorem dX12_pay_158 : decode cX12_pay 158 = .ok (.iload_n 3, 1) := by decide +kernel
theorem dX12_pay_159 : decode cX12_pay 159 = .ok (.iload 6, 2) := by decide +kernel
theorem dX12_pay_161 : decode cX12_pay 161 = .ok (.invokestatic 357, 3) := by decide +kernel
theorem dX12_pay_164 : decode cX12_pay 164 = .ok (.ifCond .eq 11, 3) := by decide +kernel
theorem dX12_pay_167 : decode cX12_pay 167 = .ok (.aload_n 0, 1) := by decide +kernel
theorem dX12_pay_168 : decode cX12_pay 168 = .ok (.getfield 162, 3) := by decide +kernel
theorem dX12_pay_171 : decode cX12_pay 171 = .ok (.iload 6, 2) := by decide +kernel
theorem dX12_pay_173 : decode cX12_pay 173 = .ok (.iload_n 2, 1) := by decide +kernel
theorem dX12_pay_174 : decode cX12_pay 174 = .ok (.iastore, 1) := by decide +kernel
theorem dX12_pay_175 : decode cX12_pay 175 = .ok (.iinc 6 1, 3) := by decide +kernel
theorem dX12_pay_178 : decode cX12_pay 178 = .ok (.goto (-34), 3) := by decide +kernel
theorem dX12_pay_181 : decode cX12_pay 181 = .ok (.aload_n 0, 1) := by decide +kernel
theorem dX12_pay_182 : decode cX12_pay 182 = .ok (.iload_n 1, 1) := by decide +kernel
theorem dX12_pay_183 : decode cX12_pay 183 = .ok (.iload_n 2, 1) := by decide +kernel
theorem dX12_pay_184 : decode cX12_pay 184 = .ok (.iload 4, 2) := by decide +kernel
theorem dX12_pay_186 : decode cX12_pay 186 = .ok (.invokevirtual 562, 3) := by decide +kernel
theorem dX12_pay_189 : decode cX12_pay 189 = .ok (.iload 4, 2) := by decide +kernel
theorem dX12_pay_191 : decode cX12_pay 191 = .ok (.ireturn, 1) := by decide +kernel
theorem dX12_strike_0 : decode cX12_strike 0 = .ok (.aload_n 0, 1) := by decide +kernel
theorem dX12_strike_1 : decode cX12_strike 1 = .ok (.getfield 13, 3) := by decide +kernel
theorem dX12_strike_4 : decode cX12_strike 4 = .ok (.istore_n 1, 1) := by decide +kernel
theorem dX12_strike_5 : decode cX12_strike 5 = .ok (.aload_n 0, 1) := by decide +kernel
theorem dX12_strike_6 : decode cX12_strike 6 = .ok (.iconst 0, 1) := by decide +kernel
theorem dX12_strike_7 : decode cX12_strike 7 = .ok (.putfield 13, 3) := by decide +kernel
theorem dX12_strike_10 : decode cX12_strike 10 = .ok (.iload_n 1, 1) := by decide +kernel
theorem dX12_strike_11 : decode cX12_strike 11 = .ok (.iconst 2, 1) := by decide +kernel
theorem dX12_strike_12 : decode cX12_strike 12 = .ok (.bipush 6, 2) := by decide +kernel
theorem dX12_strike_14 : decode cX12_strike 14 = .ok (.invokestatic 319, 3) := by decide +kernel
theorem dX12_strike_17 : decode cX12_strike 17 = .ok (.istore_n 2, 1) := by decide +kernel
theorem dX12_strike_18 : decode cX12_strike 18 = .ok (.iconst 0, 1) := by decide +kernel
theorem dX12_strike_19 : decode cX12_strike 19 = .ok (.istore_n 3, 1) := by decide +kernel
theorem dX12_strike_20 : decode cX12_strike 20 = .ok (.iconst 0, 1) := by decide +kernel
theorem dX12_strike_21 : decode cX12_strike 21 = .ok (.istore 4, 2) := by decide +kernel
theorem dX12_strike_23 : decode cX12_strike 23 = .ok (.iload 4, 2) := by decide +kernel
theorem dX12_strike_25 : decode cX12_strike 25 = .ok (.iload_n 1, 1) := by decide +kernel
theorem dX12_strike_26 : decode cX12_strike 26 = .ok (.if_icmp .ge 69, 3) := by decide +kernel
theorem dX12_strike_29 : decode cX12_strike 29 = .ok (.iload_n 2, 1) := by decide +kernel
theorem dX12_strike_30 : decode cX12_strike 30 = .ok (.ifCond .eq 65, 3) := by decide +kernel
theorem dX12_strike_33 : decode cX12_strike 33 = .ok (.aload_n 0, 1) := by decide +kernel
theorem dX12_strike_34 : decode cX12_strike 34 = .ok (.aload_n 0, 1) := by decide +kernel
theorem dX12_strike_35 : decode cX12_strike 35 = .ok (.getfield 7, 3) := by decide +kernel
theorem dX12_strike_38 : decode cX12_strike 38 = .ok (.iload 4, 2) := by decide +kernel
theorem dX12_strike_40 : decode cX12_strike 40 = .ok (.iaload, 1) := by decide +kernel
theorem dX12_strike_41 : decode cX12_strike 41 = .ok (.invokevirtual 504, 3) := by decide +kernel
theorem dX12_strike_44 : decode cX12_strike 44 = .ok (.istore_n 2, 1) := by decide +kernel
theorem dX12_strike_45 : decode cX12_strike 45 = .ok (.iload_n 2, 1) := by decide +kernel
theorem dX12_strike_46 : decode cX12_strike 46 = .ok (.ifCond .eq 21, 3) := by decide +kernel
theorem dX12_strike_49 : decode cX12_strike 49 = .ok (.iload_n 3, 1) := by decide +kernel
theorem dX12_strike_50 : decode cX12_strike 50 = .ok (.aload_n 0, 1) := by decide +kernel
theorem dX12_strike_51 : decode cX12_strike 51 = .ok (.getfield 7, 3) := by decide +kernel
theorem dX12_strike_54 : decode cX12_strike 54 = .ok (.iload 4, 2) := by decide +kernel
theorem dX12_strike_56 : decode cX12_strike 56 = .ok (.iaload, 1) := by decide +kernel
theorem dX12_strike_57 : decode cX12_strike 57 = .ok (.invokestatic 357, 3) := by decide +kernel
theorem dX12_strike_60 : decode cX12_strike 60 = .ok (.ifCond .ne 7, 3) := by decide +kernel
theorem dX12_strike_63 : decode cX12_strike 63 = .ok (.iconst 1, 1) := by decide +kernel
theorem dX12_strike_64 : decode cX12_strike 64 = .ok (.goto 4, 3) := by decide +kernel
theorem dX12_strike_67 : decode cX12_strike 67 = .ok (.iconst 0, 1) := by decide +kernel
theorem dX12_strike_68 : decode cX12_strike 68 = .ok (.istore_n 2, 1) := by decide +kernel
theorem dX12_strike_69 : decode cX12_strike 69 = .ok (.iload_n 3, 1) := by decide +kernel
theorem dX12_strike_70 : decode cX12_strike 70 = .ok (.iload_n 2, 1) := by decide +kernel
theorem dX12_strike_71 : decode cX12_strike 71 = .ok (.ifCond .eq 15, 3) := by decide +kernel
theorem dX12_strike_74 : decode cX12_strike 74 = .ok (.iconst 1, 1) := by decide +kernel
theorem dX12_strike_75 : decode cX12_strike 75 = .ok (.aload_n 0, 1) := by decide +kernel
theorem dX12_strike_76 : decode cX12_strike 76 = .ok (.getfield 7, 3) := by decide +kernel
theorem dX12_strike_79 : decode cX12_strike 79 = .ok (.iload 4, 2) := by decide +kernel
theorem dX12_strike_81 : decode cX12_strike 81 = .ok (.iaload, 1) := by decide +kernel
theorem dX12_strike_82 : decode cX12_strike 82 = .ok (.ishl, 1) := by decide +kernel
theorem dX12_strike_83 : decode cX12_strike 83 = .ok (.goto 4, 3) := by decide +kernel
theorem dX12_strike_86 : decode cX12_strike 86 = .ok (.iconst 0, 1) := by decide +kernel
theorem dX12_strike_87 : decode cX12_strike 87 = .ok (.ior, 1) := by decide +kernel
theorem dX12_strike_88 : decode cX12_strike 88 = .ok (.istore_n 3, 1) := by decide +kernel
theorem dX12_strike_89 : decode cX12_strike 89 = .ok (.iinc 4 1, 3) := by decide +kernel
theorem dX12_strike_92 : decode cX12_strike 92 = .ok (.goto (-69), 3) := by decide +kernel
theorem dX12_strike_95 : decode cX12_strike 95 = .ok (.ldc_w 516, 3) := by decide +kernel
theorem dX12_strike_98 : decode cX12_strike 98 = .ok (.istore 4, 2) := by decide +kernel
theorem dX12_strike_100 : decode cX12_strike 100 = .ok (.iconst 0, 1) := by decide +kernel
theorem dX12_strike_101 : decode cX12_strike 101 = .ok (.istore 5, 2) := by decide +kernel
theorem dX12_strike_103 : decode cX12_strike 103 = .ok (.iload 5, 2) := by decide +kernel
theorem dX12_strike_105 : decode cX12_strike 105 = .ok (.iload_n 1, 1) := by decide +kernel
theorem dX12_strike_106 : decode cX12_strike 106 = .ok (.if_icmp .ge 53, 3) := by decide +kernel
theorem dX12_strike_109 : decode cX12_strike 109 = .ok (.iload_n 2, 1) := by decide +kernel
theorem dX12_strike_110 : decode cX12_strike 110 = .ok (.ifCond .eq 49, 3) := by decide +kernel
theorem dX12_strike_113 : decode cX12_strike 113 = .ok (.aload_n 0, 1) := by decide +kernel
theorem dX12_strike_114 : decode cX12_strike 114 = .ok (.aload_n 0, 1) := by decide +kernel
theorem dX12_strike_115 : decode cX12_strike 115 = .ok (.getfield 7, 3) := by decide +kernel
theorem dX12_strike_118 : decode cX12_strike 118 = .ok (.iload 5, 2) := by decide +kernel
theorem dX12_strike_120 : decode cX12_strike 120 = .ok (.iaload, 1) := by decide +kernel
theorem dX12_strike_121 : decode cX12_strike 121 = .ok (.aload_n 0, 1) := by decide +kernel
theorem dX12_strike_122 : decode cX12_strike 122 = .ok (.getfield 7, 3) := by decide +kernel
theorem dX12_strike_125 : decode cX12_strike 125 = .ok (.iload 5, 2) := by decide +kernel
theorem dX12_strike_127 : decode cX12_strike 127 = .ok (.iconst 1, 1) := by decide +kernel
theorem dX12_strike_128 : decode cX12_strike 128 = .ok (.iadd, 1) := by decide +kernel
theorem dX12_strike_129 : decode cX12_strike 129 = .ok (.iload_n 1, 1) := by decide +kernel
theorem dX12_strike_130 : decode cX12_strike 130 = .ok (.irem, 1) := by decide +kernel
theorem dX12_strike_131 : decode cX12_strike 131 = .ok (.iaload, 1) := by decide +kernel
theorem dX12_strike_132 : decode cX12_strike 132 = .ok (.invokevirtual 479, 3) := by decide +kernel
theorem dX12_strike_135 : decode cX12_strike 135 = .ok (.istore 6, 2) := by decide +kernel
theorem dX12_strike_137 : decode cX12_strike 137 = .ok (.iload 6, 2) := by decide +kernel
theorem dX12_strike_139 : decode cX12_strike 139 = .ok (.iload 4, 2) := by decide +kernel
theorem dX12_strike_141 : decode cX12_strike 141 = .ok (.if_icmp .ge 8, 3) := by decide +kernel
theorem dX12_strike_144 : decode cX12_strike 144 = .ok (.iload 6, 2) := by decide +kernel
theorem dX12_strike_146 : decode cX12_strike 146 = .ok (.goto 5, 3) := by decide +kernel
theorem dX12_strike_149 : decode cX12_strike 149 = .ok (.iload 4, 2) := by decide +kernel
theorem dX12_strike_151 : decode cX12_strike 151 = .ok (.istore 4, 2) := by decide +kernel
theorem dX12_strike_153 : decode cX12_strike 153 = .ok (.iinc 5 1, 3) := by decide +kernel
theorem dX12_strike_156 : decode cX12_strike 156 = .ok (.goto (-53), 3) := by decide +kernel
theorem dX12_strike_159 : decode cX12_strike 159 = .ok (.iload_n 2, 1) := by decide +kernel
theorem dX12_strike_160 : decode cX12_strike 160 = .ok (.ifCond .eq 8, 3) := by decide +kernel
theorem dX12_strike_163 : decode cX12_strike 163 = .ok (.iload 4, 2) := by decide +kernel
theorem dX12_strike_165 : decode cX12_strike 165 = .ok (.ifCond .ne 9, 3) := by decide +kernel
theorem dX12_strike_168 : decode cX12_strike 168 = .ok (.aload_n 0, 1) := by decide +kernel
theorem dX12_strike_169 : decode cX12_strike 169 = .ok (.iconst 3, 1) := by decide +kernel
theorem dX12_strike_170 : decode cX12_strike 170 = .ok (.invokevirtual 229, 3) := by decide +kernel
theorem dX12_strike_173 : decode cX12_strike 173 = .ok (.ireturn, 1) := by decide +kernel
theorem dX12_strike_174 : decode cX12_strike 174 = .ok (.aload_n 0, 1) := by decide +kernel
theorem dX12_strike_175 : decode cX12_strike 175 = .ok (.invokevirtual 548, 3) := by decide +kernel
theorem dX12_strike_178 : decode cX12_strike 178 = .ok (.iconst 0, 1) := by decide +kernel
theorem dX12_strike_179 : decode cX12_strike 179 = .ok (.istore 5, 2) := by decide +kernel
theorem dX12_strike_181 : decode cX12_strike 181 = .ok (.iload 5, 2) := by decide +kernel
theorem dX12_strike_183 : decode cX12_strike 183 = .ok (.iload_n 1, 1) := by decide +kernel
theorem dX12_strike_184 : decode cX12_strike 184 = .ok (.if_icmp .ge 41, 3) := by decide +kernel
theorem dX12_strike_187 : decode cX12_strike 187 = .ok (.aload_n 0, 1) := by decide +kernel
theorem dX12_strike_188 : decode cX12_strike 188 = .ok (.getfield 165, 3) := by decide +kernel
theorem dX12_strike_191 : decode cX12_strike 191 = .ok (.bipush 6, 2) := by decide +kernel
theorem dX12_strike_193 : decode cX12_strike 193 = .ok (.aload_n 0, 1) := by decide +kernel
theorem dX12_strike_194 : decode cX12_strike 194 = .ok (.getfield 7, 3) := by decide +kernel
theorem dX12_strike_197 : decode cX12_strike 197 = .ok (.iload 5, 2) := by decide +kernel
theorem dX12_strike_199 : decode cX12_strike 199 = .ok (.iaload, 1) := by decide +kernel
theorem dX12_strike_200 : decode cX12_strike 200 = .ok (.imul, 1) := by decide +kernel
theorem dX12_strike_201 : decode cX12_strike 201 = .ok (.aload_n 0, 1) := by decide +kernel
theorem dX12_strike_202 : decode cX12_strike 202 = .ok (.getfield 7, 3) := by decide +kernel
theorem dX12_strike_205 : decode cX12_strike 205 = .ok (.iload 5, 2) := by decide +kernel
theorem dX12_strike_207 : decode cX12_strike 207 = .ok (.iconst 1, 1) := by decide +kernel
theorem dX12_strike_208 : decode cX12_strike 208 = .ok (.iadd, 1) := by decide +kernel
theorem dX12_strike_209 : decode cX12_strike 209 = .ok (.iload_n 1, 1) := by decide +kernel
theorem dX12_strike_210 : decode cX12_strike 210 = .ok (.irem, 1) := by decide +kernel
theorem dX12_strike_211 : decode cX12_strike 211 = .ok (.iaload, 1) := by decide +kernel
theorem dX12_strike_212 : decode cX12_strike 212 = .ok (.iadd, 1) := by decide +kernel
theorem dX12_strike_213 : decode cX12_strike 213 = .ok (.dup2, 1) := by decide +kernel
theorem dX12_strike_214 : decode cX12_strike 214 = .ok (.iaload, 1) := by decide +kernel
theorem dX12_strike_215 : decode cX12_strike 215 = .ok (.iload 4, 2) := by decide +kernel
theorem dX12_strike_217 : decode cX12_strike 217 = .ok (.isub, 1) := by decide +kernel
theorem dX12_strike_218 : decode cX12_strike 218 = .ok (.iastore, 1) := by decide +kernel
theorem dX12_strike_219 : decode cX12_strike 219 = .ok (.iinc 5 1, 3) := by decide +kernel
theorem dX12_strike_222 : decode cX12_strike 222 = .ok (.goto (-41), 3) := by decide +kernel
theorem dX12_strike_225 : decode cX12_strike 225 = .ok (.iload 4, 2) := by decide +kernel
theorem dX12_strike_227 : decode cX12_strike 227 = .ok (.ireturn, 1) := by decide +kernel
theorem dX12_seed_0 : decode cX12_seed 0 = .ok (.iload_n 1, 1) := by decide +kernel
theorem dX12_seed_1 : decode cX12_seed 1 = .ok (.ifCond .ge 17, 3) := by decide +kernel
theorem dX12_seed_4 : decode cX12_seed 4 = .ok (.aload_n 0, 1) := by decide +kernel
theorem dX12_seed_5 : decode cX12_seed 5 = .ok (.iconst 5, 1) := by decide +kernel
theorem dX12_seed_6 : decode cX12_seed 6 = .ok (.invokevirtual 229, 3) := by decide +kernel
theorem dX12_seed_9 : decode cX12_seed 9 = .ok (.ifCond .lt 7, 3) := by decide +kernel
theorem dX12_seed_12 : decode cX12_seed 12 = .ok (.iconst 1, 1) := by decide +kernel
theorem dX12_seed_13 : decode cX12_seed 13 = .ok (.goto 4, 3) := by decide +kernel
theorem dX12_seed_16 : decode cX12_seed 16 = .ok (.iconst 0, 1) := by decide +kernel
theorem dX12_seed_17 : decode cX12_seed 17 = .ok (.ireturn, 1) := by decide +kernel
theorem dX12_seed_18 : decode cX12_seed 18 = .ok (.aload_n 0, 1) := by decide +kernel
theorem dX12_seed_19 : decode cX12_seed 19 = .ok (.iload_n 1, 1) := by decide +kernel
theorem dX12_seed_20 : decode cX12_seed 20 = .ok (.i2l, 1) := by decide +kernel
theorem dX12_seed_21 : decode cX12_seed 21 = .ok (.putfield 180, 3) := by decide +kernel
theorem dX12_seed_24 : decode cX12_seed 24 = .ok (.iconst 1, 1) := by decide +kernel
theorem dX12_seed_25 : decode cX12_seed 25 = .ok (.ireturn, 1) := by decide +kernel
theorem dX12_kept_0 : decode cX12_kept 0 = .ok (.iload_n 1, 1) := by decide +kernel
theorem dX12_kept_1 : decode cX12_kept 1 = .ok (.iconst 0, 1) := by decide +kernel
theorem dX12_kept_2 : decode cX12_kept 2 = .ok (.aload_n 0, 1) := by decide +kernel
theorem dX12_kept_3 : decode cX12_kept 3 = .ok (.getfield 168, 3) := by decide +kernel
theorem dX12_kept_6 : decode cX12_kept 6 = .ok (.iconst 0, 1) := by decide +kernel
theorem dX12_kept_7 : decode cX12_kept 7 = .ok (.iaload, 1) := by decide +kernel
theorem dX12_kept_8 : decode cX12_kept 8 = .ok (.iconst 1, 1) := by decide +kernel
theorem dX12_kept_9 : decode cX12_kept 9 = .ok (.isub, 1) := by decide +kernel
theorem dX12_kept_10 : decode cX12_kept 10 = .ok (.invokestatic 319, 3) := by decide +kernel
theorem dX12_kept_13 : decode cX12_kept 13 = .ok (.ifCond .eq 25, 3) := by decide +kernel
theorem dX12_kept_16 : decode cX12_kept 16 = .ok (.iload_n 2, 1) := by decide +kernel
theorem dX12_kept_17 : decode cX12_kept 17 = .ok (.iconst 0, 1) := by decide +kernel
theorem dX12_kept_18 : decode cX12_kept 18 = .ok (.iconst 3, 1) := by decide +kernel
theorem dX12_kept_19 : decode cX12_kept 19 = .ok (.invokestatic 319, 3) := by decide +kernel
theorem dX12_kept_22 : decode cX12_kept 22 = .ok (.ifCond .eq 16, 3) := by decide +kernel
theorem dX12_kept_25 : decode cX12_kept 25 = .ok (.aload_n 0, 1) := by decide +kernel
theorem dX12_kept_26 : decode cX12_kept 26 = .ok (.getfield 171, 3) := by decide +kernel
theorem dX12_kept_29 : decode cX12_kept 29 = .ok (.iconst 4, 1) := by decide +kernel
theorem dX12_kept_30 : decode cX12_kept 30 = .ok (.iload_n 1, 1) := by decide +kernel
theorem dX12_kept_31 : decode cX12_kept 31 = .ok (.imul, 1) := by decide +kernel
theorem dX12_kept_32 : decode cX12_kept 32 = .ok (.iload_n 2, 1) := by decide +kernel
theorem dX12_kept_33 : decode cX12_kept 33 = .ok (.iadd, 1) := by decide +kernel
theorem dX12_kept_34 : decode cX12_kept 34 = .ok (.iaload, 1) := by decide +kernel
theorem dX12_kept_35 : decode cX12_kept 35 = .ok (.goto 4, 3) := by decide +kernel
theorem dX12_kept_38 : decode cX12_kept 38 = .ok (.iconst (-1), 1) := by decide +kernel
theorem dX12_kept_39 : decode cX12_kept 39 = .ok (.ireturn, 1) := by decide +kernel
theorem dX12_writes_0 : decode cX12_writes 0 = .ok (.aload_n 0, 1) := by decide +kernel
theorem dX12_writes_1 : decode cX12_writes 1 = .ok (.getfield 223, 3) := by decide +kernel
theorem dX12_writes_4 : decode cX12_writes 4 = .ok (.aload_n 0, 1) := by decide +kernel
theorem dX12_writes_5 : decode cX12_writes 5 = .ok (.getfield 226, 3) := by decide +kernel
theorem dX12_writes_8 : decode cX12_writes 8 = .ok (.iload_n 1, 1) := by decide +kernel
theorem dX12_writes_9 : decode cX12_writes 9 = .ok (.sipush 255, 3) := by decide +kernel
theorem dX12_writes_12 : decode cX12_writes 12 = .ok (.iand, 1) := by decide +kernel
theorem dX12_writes_13 : decode cX12_writes 13 = .ok (.iastore, 1) := by decide +kernel
theorem dX12_writes_14 : decode cX12_writes 14 = .ok (.aload_n 0, 1) := by decide +kernel
theorem dX12_writes_15 : decode cX12_writes 15 = .ok (.dup, 1) := by decide +kernel
theorem dX12_writes_16 : decode cX12_writes 16 = .ok (.getfield 226, 3) := by decide +kernel
theorem dX12_writes_19 : decode cX12_writes 19 = .ok (.iconst 1, 1) := by decide +kernel
theorem dX12_writes_20 : decode cX12_writes 20 = .ok (.iadd, 1) := by decide +kernel
theorem dX12_writes_21 : decode cX12_writes 21 = .ok (.putfield 226, 3) := by decide +kernel
theorem dX12_writes_24 : decode cX12_writes 24 = .ok (.return_, 1) := by decide +kernel
theorem dX12_writesTwo_0 : decode cX12_writesTwo 0 = .ok (.aload_n 0, 1) := by decide +kernel
theorem dX12_writesTwo_1 : decode cX12_writesTwo 1 = .ok (.iload_n 1, 1) := by decide +kernel
theorem dX12_writesTwo_2 : decode cX12_writesTwo 2 = .ok (.bipush 8, 2) := by decide +kernel
theorem dX12_writesTwo_4 : decode cX12_writesTwo 4 = .ok (.ishr, 1) := by decide +kernel
theorem dX12_writesTwo_5 : decode cX12_writesTwo 5 = .ok (.invokevirtual 565, 3) := by decide +kernel
theorem dX12_writesTwo_8 : decode cX12_writesTwo 8 = .ok (.aload_n 0, 1) := by decide +kernel
theorem dX12_writesTwo_9 : decode cX12_writesTwo 9 = .ok (.iload_n 1, 1) := by decide +kernel
theorem dX12_writesTwo_10 : decode cX12_writesTwo 10 = .ok (.invokevirtual 565, 3) := by decide +kernel
theorem dX12_writesTwo_13 : decode cX12_writesTwo 13 = .ok (.return_, 1) := by decide +kernel
theorem dX12_image_0 : decode cX12_image 0 = .ok (.aload_n 0, 1) := by decide +kernel
theorem dX12_image_1 : decode cX12_image 1 = .ok (.iconst 0, 1) := by decide +kernel
theorem dX12_image_2 : decode cX12_image 2 = .ok (.putfield 226, 3) := by decide +kernel
theorem dX12_image_5 : decode cX12_image 5 = .ok (.aload_n 0, 1) := by decide +kernel
theorem dX12_image_6 : decode cX12_image 6 = .ok (.aload_n 0, 1) := by decide +kernel
theorem dX12_image_7 : decode cX12_image 7 = .ok (.getfield 153, 3) := by decide +kernel
theorem dX12_image_10 : decode cX12_image 10 = .ok (.iconst 0, 1) := by decide +kernel
theorem dX12_image_11 : decode cX12_image 11 = .ok (.iaload, 1) := by decide +kernel
theorem dX12_image_12 : decode cX12_image 12 = .ok (.invokevirtual 568, 3) := by decide +kernel
theorem dX12_image_15 : decode cX12_image 15 = .ok (.iconst 0, 1) := by decide +kernel
theorem dX12_image_16 : decode cX12_image 16 = .ok (.istore_n 1, 1) := by decide +kernel
theorem dX12_image_17 : decode cX12_image 17 = .ok (.iload_n 1, 1) := by decide +kernel
theorem dX12_image_18 : decode cX12_image 18 = .ok (.aload_n 0, 1) := by decide +kernel
theorem dX12_image_19 : decode cX12_image 19 = .ok (.getfield 66, 3) := by decide +kernel
theorem dX12_image_22 : decode cX12_image 22 = .ok (.aload_n 0, 1) := by decide +kernel
theorem dX12_image_23 : decode cX12_image 23 = .ok (.getfield 51, 3) := by decide +kernel
theorem dX12_image_26 : decode cX12_image 26 = .ok (.iaload, 1) := by decide +kernel
theorem dX12_image_27 : decode cX12_image 27 = .ok (.if_icmp .ge 39, 3) := by decide +kernel
theorem dX12_image_30 : decode cX12_image 30 = .ok (.aload_n 0, 1) := by decide +kernel
theorem dX12_image_31 : decode cX12_image 31 = .ok (.aload_n 0, 1) := by decide +kernel
theorem dX12_image_32 : decode cX12_image 32 = .ok (.iconst 0, 1) := by decide +kernel
theorem dX12_image_33 : decode cX12_image 33 = .ok (.iload_n 1, 1) := by decide +kernel
theorem dX12_image_34 : decode cX12_image 34 = .ok (.invokevirtual 440, 3) := by decide +kernel
theorem dX12_image_37 : decode cX12_image 37 = .ok (.invokevirtual 568, 3) := by decide +kernel
theorem dX12_image_40 : decode cX12_image 40 = .ok (.aload_n 0, 1) := by decide +kernel
theorem dX12_image_41 : decode cX12_image 41 = .ok (.aload_n 0, 1) := by decide +kernel
theorem dX12_image_42 : decode cX12_image 42 = .ok (.iconst 0, 1) := by decide +kernel
theorem dX12_image_43 : decode cX12_image 43 = .ok (.iload_n 1, 1) := by decide +kernel
theorem dX12_image_44 : decode cX12_image 44 = .ok (.invokevirtual 437, 3) := by decide +kernel
theorem dX12_image_47 : decode cX12_image 47 = .ok (.invokevirtual 565, 3) := by decide +kernel
theorem dX12_image_50 : decode cX12_image 50 = .ok (.aload_n 0, 1) := by decide +kernel
theorem dX12_image_51 : decode cX12_image 51 = .ok (.aload_n 0, 1) := by decide +kernel
theorem dX12_image_52 : decode cX12_image 52 = .ok (.iconst 0, 1) := by decide +kernel
theorem dX12_image_53 : decode cX12_image 53 = .ok (.iload_n 1, 1) := by decide +kernel
theorem dX12_image_54 : decode cX12_image 54 = .ok (.invokevirtual 473, 3) := by decide +kernel
theorem dX12_image_57 : decode cX12_image 57 = .ok (.invokevirtual 565, 3) := by decide +kernel
theorem dX12_image_60 : decode cX12_image 60 = .ok (.iinc 1 1, 3) := by decide +kernel
theorem dX12_image_63 : decode cX12_image 63 = .ok (.goto (-46), 3) := by decide +kernel
theorem dX12_image_66 : decode cX12_image 66 = .ok (.iconst 0, 1) := by decide +kernel
theorem dX12_image_67 : decode cX12_image 67 = .ok (.istore_n 1, 1) := by decide +kernel
theorem dX12_image_68 : decode cX12_image 68 = .ok (.iload_n 1, 1) := by decide +kernel
theorem dX12_image_69 : decode cX12_image 69 = .ok (.aload_n 0, 1) := by decide +kernel
theorem dX12_image_70 : decode cX12_image 70 = .ok (.getfield 63, 3) := by decide +kernel
theorem dX12_image_73 : decode cX12_image 73 = .ok (.aload_n 0, 1) := by decide +kernel
theorem dX12_image_74 : decode cX12_image 74 = .ok (.getfield 51, 3) := by decide +kernel
theorem dX12_image_77 : decode cX12_image 77 = .ok (.iaload, 1) := by decide +kernel
theorem dX12_image_78 : decode cX12_image 78 = .ok (.if_icmp .ge 40, 3) := by decide +kernel
theorem dX12_image_81 : decode cX12_image 81 = .ok (.iconst 0, 1) := by decide +kernel
theorem dX12_image_82 : decode cX12_image 82 = .ok (.istore_n 2, 1) := by decide +kernel
theorem dX12_image_83 : decode cX12_image 83 = .ok (.iload_n 2, 1) := by decide +kernel
theorem dX12_image_84 : decode cX12_image 84 = .ok (.aload_n 0, 1) := by decide +kernel
theorem dX12_image_85 : decode cX12_image 85 = .ok (.getfield 63, 3) := by decide +kernel
theorem dX12_image_88 : decode cX12_image 88 = .ok (.aload_n 0, 1) := by decide +kernel
theorem dX12_image_89 : decode cX12_image 89 = .ok (.getfield 51, 3) := by decide +kernel
theorem dX12_image_92 : decode cX12_image 92 = .ok (.iaload, 1) := by decide +kernel
theorem dX12_image_93 : decode cX12_image 93 = .ok (.if_icmp .ge 19, 3) := by decide +kernel
theorem dX12_image_96 : decode cX12_image 96 = .ok (.aload_n 0, 1) := by decide +kernel
theorem dX12_image_97 : decode cX12_image 97 = .ok (.aload_n 0, 1) := by decide +kernel
theorem dX12_image_98 : decode cX12_image 98 = .ok (.iload_n 1, 1) := by decide +kernel
theorem dX12_image_99 : decode cX12_image 99 = .ok (.iload_n 2, 1) := by decide +kernel
theorem dX12_image_100 : decode cX12_image 100 = .ok (.invokevirtual 479, 3) := by decide +kernel
theorem dX12_image_103 : decode cX12_image 103 = .ok (.invokevirtual 568, 3) := by decide +kernel
theorem dX12_image_106 : decode cX12_image 106 = .ok (.iinc 2 1, 3) := by decide +kernel
theorem dX12_image_109 : decode cX12_image 109 = .ok (.goto (-26), 3) := by decide +kernel
theorem dX12_image_112 : decode cX12_image 112 = .ok (.iinc 1 1, 3) := by decide +kernel
theorem dX12_image_115 : decode cX12_image 115 = .ok (.goto (-47), 3) := by decide +kernel
theorem dX12_image_118 : decode cX12_image 118 = .ok (.sipush 149, 3) := by decide +kernel
theorem dX12_image_121 : decode cX12_image 121 = .ok (.istore_n 1, 1) := by decide +kernel
theorem dX12_image_122 : decode cX12_image 122 = .ok (.iconst 0, 1) := by decide +kernel
theorem dX12_image_123 : decode cX12_image 123 = .ok (.istore_n 2, 1) := by decide +kernel
theorem dX12_image_124 : decode cX12_image 124 = .ok (.iload_n 2, 1) := by decide +kernel
theorem dX12_image_125 : decode cX12_image 125 = .ok (.aload_n 0, 1) := by decide +kernel
theorem dX12_image_126 : decode cX12_image 126 = .ok (.getfield 226, 3) := by decide +kernel
theorem dX12_image_129 : decode cX12_image 129 = .ok (.if_icmp .ge 24, 3) := by decide +kernel
theorem dX12_image_132 : decode cX12_image 132 = .ok (.iconst 5, 1) := by decide +kernel
theorem dX12_image_133 : decode cX12_image 133 = .ok (.iload_n 1, 1) := by decide +kernel
theorem dX12_image_134 : decode cX12_image 134 = .ok (.imul, 1) := by decide +kernel
theorem dX12_image_135 : decode cX12_image 135 = .ok (.aload_n 0, 1) := by decide +kernel
theorem dX12_image_136 : decode cX12_image 136 = .ok (.getfield 223, 3) := by decide +kernel
theorem dX12_image_139 : decode cX12_image 139 = .ok (.iload_n 2, 1) := by decide +kernel
theorem dX12_image_140 : decode cX12_image 140 = .ok (.iaload, 1) := by decide +kernel
theorem dX12_image_141 : decode cX12_image 141 = .ok (.iadd, 1) := by decide +kernel
theorem dX12_image_142 : decode cX12_image 142 = .ok (.sipush 251, 3) := by decide +kernel
theorem dX12_image_145 : decode cX12_image 145 = .ok (.irem, 1) := by decide +kernel
theorem dX12_image_146 : decode cX12_image 146 = .ok (.istore_n 1, 1) := by decide +kernel
theorem dX12_image_147 : decode cX12_image 147 = .ok (.iinc 2 1, 3) := by decide +kernel
theorem dX12_image_150 : decode cX12_image 150 = .ok (.goto (-26), 3) := by decide +kernel
theorem dX12_image_153 : decode cX12_image 153 = .ok (.aload_n 0, 1) := by decide +kernel
theorem dX12_image_154 : decode cX12_image 154 = .ok (.iload_n 1, 1) := by decide +kernel
theorem dX12_image_155 : decode cX12_image 155 = .ok (.invokevirtual 565, 3) := by decide +kernel
theorem dX12_image_158 : decode cX12_image 158 = .ok (.aload_n 0, 1) := by decide +kernel
theorem dX12_image_159 : decode cX12_image 159 = .ok (.getfield 226, 3) := by decide +kernel
theorem dX12_image_162 : decode cX12_image 162 = .ok (.ireturn, 1) := by decide +kernel
theorem dX12_octet_0 : decode cX12_octet 0 = .ok (.iload_n 1, 1) := by decide +kernel
theorem dX12_octet_1 : decode cX12_octet 1 = .ok (.iconst 0, 1) := by decide +kernel
theorem dX12_octet_2 : decode cX12_octet 2 = .ok (.aload_n 0, 1) := by decide +kernel
theorem dX12_octet_3 : decode cX12_octet 3 = .ok (.getfield 226, 3) := by decide +kernel
theorem dX12_octet_6 : decode cX12_octet 6 = .ok (.iconst 1, 1) := by decide +kernel
theorem dX12_octet_7 : decode cX12_octet 7 = .ok (.isub, 1) := by decide +kernel
theorem dX12_octet_8 : decode cX12_octet 8 = .ok (.invokestatic 319, 3) := by decide +kernel
theorem dX12_octet_11 : decode cX12_octet 11 = .ok (.ifCond .eq 12, 3) := by decide +kernel
theorem dX12_octet_14 : decode cX12_octet 14 = .ok (.aload_n 0, 1) := by decide +kernel
theorem dX12_octet_15 : decode cX12_octet 15 = .ok (.getfield 223, 3) := by decide +kernel
theorem dX12_octet_18 : decode cX12_octet 18 = .ok (.iload_n 1, 1) := by decide +kernel
theorem dX12_octet_19 : decode cX12_octet 19 = .ok (.iaload, 1) := by decide +kernel
theorem dX12_octet_20 : decode cX12_octet 20 = .ok (.goto 4, 3) := by decide +kernel
theorem dX12_octet_23 : decode cX12_octet 23 = .ok (.iconst (-1), 1) := by decide +kernel
theorem dX12_octet_24 : decode cX12_octet 24 = .ok (.ireturn, 1) := by decide +kernel
theorem dX12_twoBytes_0 : decode cX12_twoBytes 0 = .ok (.aload_n 0, 1) := by decide +kernel
theorem dX12_twoBytes_1 : decode cX12_twoBytes 1 = .ok (.getfield 7, 3) := by decide +kernel
theorem dX12_twoBytes_4 : decode cX12_twoBytes 4 = .ok (.iload_n 1, 1) := by decide +kernel
theorem dX12_twoBytes_5 : decode cX12_twoBytes 5 = .ok (.iaload, 1) := by decide +kernel
theorem dX12_twoBytes_6 : decode cX12_twoBytes 6 = .ok (.bipush 8, 2) := by decide +kernel
theorem dX12_twoBytes_8 : decode cX12_twoBytes 8 = .ok (.ishl, 1) := by decide +kernel
theorem dX12_twoBytes_9 : decode cX12_twoBytes 9 = .ok (.aload_n 0, 1) := by decide +kernel
theorem dX12_twoBytes_10 : decode cX12_twoBytes 10 = .ok (.getfield 7, 3) := by decide +kernel
theorem dX12_twoBytes_13 : decode cX12_twoBytes 13 = .ok (.iload_n 1, 1) := by decide +kernel
theorem dX12_twoBytes_14 : decode cX12_twoBytes 14 = .ok (.iconst 1, 1) := by decide +kernel
theorem dX12_twoBytes_15 : decode cX12_twoBytes 15 = .ok (.iadd, 1) := by decide +kernel
theorem dX12_twoBytes_16 : decode cX12_twoBytes 16 = .ok (.iaload, 1) := by decide +kernel
theorem dX12_twoBytes_17 : decode cX12_twoBytes 17 = .ok (.ior, 1) := by decide +kernel
theorem dX12_twoBytes_18 : decode cX12_twoBytes 18 = .ok (.ireturn, 1) := by decide +kernel
theorem dX12_lakeOn_0 : decode cX12_lakeOn 0 = .ok (.aload_n 0, 1) := by decide +kernel
theorem dX12_lakeOn_1 : decode cX12_lakeOn 1 = .ok (.iload_n 2, 1) := by decide +kernel
theorem dX12_lakeOn_2 : decode cX12_lakeOn 2 = .ok (.invokevirtual 542, 3) := by decide +kernel
theorem dX12_lakeOn_5 : decode cX12_lakeOn 5 = .ok (.istore_n 3, 1) := by decide +kernel
theorem dX12_lakeOn_6 : decode cX12_lakeOn 6 = .ok (.aload_n 0, 1) := by decide +kernel
theorem dX12_lakeOn_7 : decode cX12_lakeOn 7 = .ok (.getfield 7, 3) := by decide +kernel
theorem dX12_lakeOn_10 : decode cX12_lakeOn 10 = .ok (.iload_n 2, 1) := by decide +kernel
theorem dX12_lakeOn_11 : decode cX12_lakeOn 11 = .ok (.iconst 2, 1) := by decide +kernel
theorem dX12_lakeOn_12 : decode cX12_lakeOn 12 = .ok (.iadd, 1) := by decide +kernel
theorem dX12_lakeOn_13 : decode cX12_lakeOn 13 = .ok (.iaload, 1) := by decide +kernel
theorem dX12_lakeOn_14 : decode cX12_lakeOn 14 = .ok (.sipush 255, 3) := by decide +kernel
theorem dX12_lakeOn_17 : decode cX12_lakeOn 17 = .ok (.if_icmp .ne 21, 3) := by decide +kernel
theorem dX12_lakeOn_20 : decode cX12_lakeOn 20 = .ok (.aload_n 0, 1) := by decide +kernel
theorem dX12_lakeOn_21 : decode cX12_lakeOn 21 = .ok (.getfield 7, 3) := by decide +kernel
theorem dX12_lakeOn_24 : decode cX12_lakeOn 24 = .ok (.iload_n 2, 1) := by decide +kernel
theorem dX12_lakeOn_25 : decode cX12_lakeOn 25 = .ok (.iconst 3, 1) := by decide +kernel
theorem dX12_lakeOn_26 : decode cX12_lakeOn 26 = .ok (.iadd, 1) := by decide +kernel
theorem dX12_lakeOn_27 : decode cX12_lakeOn 27 = .ok (.iaload, 1) := by decide +kernel
theorem dX12_lakeOn_28 : decode cX12_lakeOn 28 = .ok (.sipush 255, 3) := by decide +kernel
theorem dX12_lakeOn_31 : decode cX12_lakeOn 31 = .ok (.if_icmp .ne 7, 3) := by decide +kernel
theorem dX12_lakeOn_34 : decode cX12_lakeOn 34 = .ok (.iconst 1, 1) := by decide +kernel
theorem dX12_lakeOn_35 : decode cX12_lakeOn 35 = .ok (.goto 4, 3) := by decide +kernel
theorem dX12_lakeOn_38 : decode cX12_lakeOn 38 = .ok (.iconst 0, 1) := by decide +kernel
theorem dX12_lakeOn_39 : decode cX12_lakeOn 39 = .ok (.istore 4, 2) := by decide +kernel
theorem dX12_lakeOn_41 : decode cX12_lakeOn 41 = .ok (.bipush 8, 2) := by decide +kernel
theorem dX12_lakeOn_43 : decode cX12_lakeOn 43 = .ok (.iload_n 1, 1) := by decide +kernel
theorem dX12_lakeOn_44 : decode cX12_lakeOn 44 = .ok (.iadd, 1) := by decide +kernel
theorem dX12_lakeOn_45 : decode cX12_lakeOn 45 = .ok (.istore 5, 2) := by decide +kernel
theorem dX12_lakeOn_47 : decode cX12_lakeOn 47 = .ok (.aload_n 0, 1) := by decide +kernel
theorem dX12_lakeOn_48 : decode cX12_lakeOn 48 = .ok (.getfield 156, 3) := by decide +kernel
theorem dX12_lakeOn_51 : decode cX12_lakeOn 51 = .ok (.iload 5, 2) := by decide +kernel
theorem dX12_lakeOn_53 : decode cX12_lakeOn 53 = .ok (.iload_n 3, 1) := by decide +kernel
theorem dX12_lakeOn_54 : decode cX12_lakeOn 54 = .ok (.iastore, 1) := by decide +kernel
theorem dX12_lakeOn_55 : decode cX12_lakeOn 55 = .ok (.aload_n 0, 1) := by decide +kernel
theorem dX12_lakeOn_56 : decode cX12_lakeOn 56 = .ok (.getfield 159, 3) := by decide +kernel
theorem dX12_lakeOn_59 : decode cX12_lakeOn 59 = .ok (.iload 5, 2) := by decide +kernel
theorem dX12_lakeOn_61 : decode cX12_lakeOn 61 = .ok (.iload 4, 2) := by decide +kernel
theorem dX12_lakeOn_63 : decode cX12_lakeOn 63 = .ok (.ifCond .eq 7, 3) := by decide +kernel
theorem dX12_lakeOn_66 : decode cX12_lakeOn 66 = .ok (.iconst (-1), 1) := by decide +kernel
theorem dX12_lakeOn_67 : decode cX12_lakeOn 67 = .ok (.goto 11, 3) := by decide +kernel
theorem dX12_lakeOn_70 : decode cX12_lakeOn 70 = .ok (.aload_n 0, 1) := by decide +kernel
theorem dX12_lakeOn_71 : decode cX12_lakeOn 71 = .ok (.getfield 7, 3) := by decide +kernel
theorem dX12_lakeOn_74 : decode cX12_lakeOn 74 = .ok (.iload_n 2, 1) := by decide +kernel
theorem dX12_lakeOn_75 : decode cX12_lakeOn 75 = .ok (.iconst 2, 1) := by decide +kernel
theorem dX12_lakeOn_76 : decode cX12_lakeOn 76 = .ok (.iadd, 1) := by decide +kernel
theorem dX12_lakeOn_77 : decode cX12_lakeOn 77 = .ok (.iaload, 1) := by decide +kernel
theorem dX12_lakeOn_78 : decode cX12_lakeOn 78 = .ok (.iastore, 1) := by decide +kernel
theorem dX12_lakeOn_79 : decode cX12_lakeOn 79 = .ok (.aload_n 0, 1) := by decide +kernel
theorem dX12_lakeOn_80 : decode cX12_lakeOn 80 = .ok (.getfield 162, 3) := by decide +kernel
theorem dX12_lakeOn_83 : decode cX12_lakeOn 83 = .ok (.iload 5, 2) := by decide +kernel
theorem dX12_lakeOn_85 : decode cX12_lakeOn 85 = .ok (.iload 4, 2) := by decide +kernel
theorem dX12_lakeOn_87 : decode cX12_lakeOn 87 = .ok (.ifCond .eq 7, 3) := by decide +kernel
theorem dX12_lakeOn_90 : decode cX12_lakeOn 90 = .ok (.iconst (-1), 1) := by decide +kernel
theorem dX12_lakeOn_91 : decode cX12_lakeOn 91 = .ok (.goto 11, 3) := by decide +kernel
theorem dX12_lakeOn_94 : decode cX12_lakeOn 94 = .ok (.aload_n 0, 1) := by decide +kernel
theorem dX12_lakeOn_95 : decode cX12_lakeOn 95 = .ok (.getfield 7, 3) := by decide +kernel
theorem dX12_lakeOn_98 : decode cX12_lakeOn 98 = .ok (.iload_n 2, 1) := by decide +kernel
theorem dX12_lakeOn_99 : decode cX12_lakeOn 99 = .ok (.iconst 3, 1) := by decide +kernel
theorem dX12_lakeOn_100 : decode cX12_lakeOn 100 = .ok (.iadd, 1) := by decide +kernel
theorem dX12_lakeOn_101 : decode cX12_lakeOn 101 = .ok (.iaload, 1) := by decide +kernel
theorem dX12_lakeOn_102 : decode cX12_lakeOn 102 = .ok (.iastore, 1) := by decide +kernel
theorem dX12_lakeOn_103 : decode cX12_lakeOn 103 = .ok (.iload_n 3, 1) := by decide +kernel
theorem dX12_lakeOn_104 : decode cX12_lakeOn 104 = .ok (.ifCond .ne 8, 3) := by decide +kernel
theorem dX12_lakeOn_107 : decode cX12_lakeOn 107 = .ok (.iload 4, 2) := by decide +kernel
theorem dX12_lakeOn_109 : decode cX12_lakeOn 109 = .ok (.goto 45, 3) := by decide +kernel
theorem dX12_lakeOn_112 : decode cX12_lakeOn 112 = .ok (.iload_n 3, 1) := by decide +kernel
theorem dX12_lakeOn_113 : decode cX12_lakeOn 113 = .ok (.sipush 999, 3) := by decide +kernel
theorem dX12_lakeOn_116 : decode cX12_lakeOn 116 = .ok (.if_icmp .gt 37, 3) := by decide +kernel
theorem dX12_lakeOn_119 : decode cX12_lakeOn 119 = .ok (.aload_n 0, 1) := by decide +kernel
theorem dX12_lakeOn_120 : decode cX12_lakeOn 120 = .ok (.aload_n 0, 1) := by decide +kernel
theorem dX12_lakeOn_121 : decode cX12_lakeOn 121 = .ok (.getfield 7, 3) := by decide +kernel
theorem dX12_lakeOn_124 : decode cX12_lakeOn 124 = .ok (.iload_n 2, 1) := by decide +kernel
theorem dX12_lakeOn_125 : decode cX12_lakeOn 125 = .ok (.iconst 2, 1) := by decide +kernel
theorem dX12_lakeOn_126 : decode cX12_lakeOn 126 = .ok (.iadd, 1) := by decide +kernel
theorem dX12_lakeOn_127 : decode cX12_lakeOn 127 = .ok (.iaload, 1) := by decide +kernel
theorem dX12_lakeOn_128 : decode cX12_lakeOn 128 = .ok (.invokevirtual 498, 3) := by decide +kernel
theorem dX12_lakeOn_131 : decode cX12_lakeOn 131 = .ok (.ifCond .eq 22, 3) := by decide +kernel
theorem dX12_lakeOn_134 : decode cX12_lakeOn 134 = .ok (.aload_n 0, 1) := by decide +kernel
theorem dX12_lakeOn_135 : decode cX12_lakeOn 135 = .ok (.aload_n 0, 1) := by decide +kernel
theorem dX12_lakeOn_136 : decode cX12_lakeOn 136 = .ok (.getfield 7, 3) := by decide +kernel
theorem dX12_lakeOn_139 : decode cX12_lakeOn 139 = .ok (.iload_n 2, 1) := by decide +kernel
theorem dX12_lakeOn_140 : decode cX12_lakeOn 140 = .ok (.iconst 3, 1) := by decide +kernel
theorem dX12_lakeOn_141 : decode cX12_lakeOn 141 = .ok (.iadd, 1) := by decide +kernel
theorem dX12_lakeOn_142 : decode cX12_lakeOn 142 = .ok (.iaload, 1) := by decide +kernel
theorem dX12_lakeOn_143 : decode cX12_lakeOn 143 = .ok (.invokevirtual 504, 3) := by decide +kernel
theorem dX12_lakeOn_146 : decode cX12_lakeOn 146 = .ok (.ifCond .eq 7, 3) := by decide +kernel
theorem dX12_lakeOn_149 : decode cX12_lakeOn 149 = .ok (.iconst 1, 1) := by decide +kernel
theorem dX12_lakeOn_150 : decode cX12_lakeOn 150 = .ok (.goto 4, 3) := by decide +kernel
theorem dX12_lakeOn_153 : decode cX12_lakeOn 153 = .ok (.iconst 0, 1) := by decide +kernel
theorem dX12_lakeOn_154 : decode cX12_lakeOn 154 = .ok (.ireturn, 1) := by decide +kernel
theorem dX12_comesOn_0 : decode cX12_comesOn 0 = .ok (.iconst 2, 1) := by decide +kernel
theorem dX12_comesOn_1 : decode cX12_comesOn 1 = .ok (.iconst 4, 1) := by decide +kernel
theorem dX12_comesOn_2 : decode cX12_comesOn 2 = .ok (.aload_n 0, 1) := by decide +kernel
theorem dX12_comesOn_3 : decode cX12_comesOn 3 = .ok (.getfield 66, 3) := by decide +kernel
theorem dX12_comesOn_6 : decode cX12_comesOn 6 = .ok (.aload_n 0, 1) := by decide +kernel
theorem dX12_comesOn_7 : decode cX12_comesOn 7 = .ok (.getfield 51, 3) := by decide +kernel
theorem dX12_comesOn_10 : decode cX12_comesOn 10 = .ok (.iaload, 1) := by decide +kernel
theorem dX12_comesOn_11 : decode cX12_comesOn 11 = .ok (.imul, 1) := by decide +kernel
theorem dX12_comesOn_12 : decode cX12_comesOn 12 = .ok (.iadd, 1) := by decide +kernel
theorem dX12_comesOn_13 : decode cX12_comesOn 13 = .ok (.istore_n 2, 1) := by decide +kernel
theorem dX12_comesOn_14 : decode cX12_comesOn 14 = .ok (.aload_n 0, 1) := by decide +kernel
theorem dX12_comesOn_15 : decode cX12_comesOn 15 = .ok (.getfield 63, 3) := by decide +kernel
theorem dX12_comesOn_18 : decode cX12_comesOn 18 = .ok (.aload_n 0, 1) := by decide +kernel
theorem dX12_comesOn_19 : decode cX12_comesOn 19 = .ok (.getfield 51, 3) := by decide +kernel
theorem dX12_comesOn_22 : decode cX12_comesOn 22 = .ok (.iaload, 1) := by decide +kernel
theorem dX12_comesOn_23 : decode cX12_comesOn 23 = .ok (.istore_n 3, 1) := by decide +kernel
theorem dX12_comesOn_24 : decode cX12_comesOn 24 = .ok (.iload_n 1, 1) := by decide +kernel
theorem dX12_comesOn_25 : decode cX12_comesOn 25 = .ok (.iload_n 2, 1) := by decide +kernel
theorem dX12_comesOn_26 : decode cX12_comesOn 26 = .ok (.iconst 2, 1) := by decide +kernel
theorem dX12_comesOn_27 : decode cX12_comesOn 27 = .ok (.iload_n 3, 1) := by decide +kernel
theorem dX12_comesOn_28 : decode cX12_comesOn 28 = .ok (.imul, 1) := by decide +kernel
theorem dX12_comesOn_29 : decode cX12_comesOn 29 = .ok (.iload_n 3, 1) := by decide +kernel
theorem dX12_comesOn_30 : decode cX12_comesOn 30 = .ok (.imul, 1) := by decide +kernel
theorem dX12_comesOn_31 : decode cX12_comesOn 31 = .ok (.iadd, 1) := by decide +kernel
theorem dX12_comesOn_32 : decode cX12_comesOn 32 = .ok (.iconst 1, 1) := by decide +kernel
theorem dX12_comesOn_33 : decode cX12_comesOn 33 = .ok (.iadd, 1) := by decide +kernel
theorem dX12_comesOn_34 : decode cX12_comesOn 34 = .ok (.if_icmp .ne 14, 3) := by decide +kernel
theorem dX12_comesOn_37 : decode cX12_comesOn 37 = .ok (.aload_n 0, 1) := by decide +kernel
theorem dX12_comesOn_38 : decode cX12_comesOn 38 = .ok (.iconst 0, 1) := by decide +kernel
theorem dX12_comesOn_39 : decode cX12_comesOn 39 = .ok (.invokevirtual 542, 3) := by decide +kernel
theorem dX12_comesOn_42 : decode cX12_comesOn 42 = .ok (.sipush 9999, 3) := by decide +kernel
theorem dX12_comesOn_45 : decode cX12_comesOn 45 = .ok (.if_icmp .le 5, 3) := by decide +kernel
theorem dX12_comesOn_48 : decode cX12_comesOn 48 = .ok (.iconst 0, 1) := by decide +kernel
theorem dX12_comesOn_49 : decode cX12_comesOn 49 = .ok (.ireturn, 1) := by decide +kernel
theorem dX12_comesOn_50 : decode cX12_comesOn 50 = .ok (.sipush 149, 3) := by decide +kernel
theorem dX12_comesOn_53 : decode cX12_comesOn 53 = .ok (.istore 4, 2) := by decide +kernel
theorem dX12_comesOn_55 : decode cX12_comesOn 55 = .ok (.iconst 0, 1) := by decide +kernel
theorem dX12_comesOn_56 : decode cX12_comesOn 56 = .ok (.istore 5, 2) := by decide +kernel
theorem dX12_comesOn_58 : decode cX12_comesOn 58 = .ok (.iload 5, 2) := by decide +kernel
theorem dX12_comesOn_60 : decode cX12_comesOn 60 = .ok (.iload_n 1, 1) := by decide +kernel
theorem dX12_comesOn_61 : decode cX12_comesOn 61 = .ok (.iconst 1, 1) := by decide +kernel
theorem dX12_comesOn_62 : decode cX12_comesOn 62 = .ok (.isub, 1) := by decide +kernel
theorem dX12_comesOn_63 : decode cX12_comesOn 63 = .ok (.if_icmp .ge 27, 3) := by decide +kernel
theorem dX12_comesOn_66 : decode cX12_comesOn 66 = .ok (.iconst 5, 1) := by decide +kernel
theorem dX12_comesOn_67 : decode cX12_comesOn 67 = .ok (.iload 4, 2) := by decide +kernel
theorem dX12_comesOn_69 : decode cX12_comesOn 69 = .ok (.imul, 1) := by decide +kernel
theorem dX12_comesOn_70 : decode cX12_comesOn 70 = .ok (.aload_n 0, 1) := by decide +kernel
theorem dX12_comesOn_71 : decode cX12_comesOn 71 = .ok (.getfield 7, 3) := by decide +kernel
theorem dX12_comesOn_74 : decode cX12_comesOn 74 = .ok (.iload 5, 2) := by decide +kernel
theorem dX12_comesOn_76 : decode cX12_comesOn 76 = .ok (.iaload, 1) := by decide +kernel
theorem dX12_comesOn_77 : decode cX12_comesOn 77 = .ok (.iadd, 1) := by decide +kernel
theorem dX12_comesOn_78 : decode cX12_comesOn 78 = .ok (.sipush 251, 3) := by decide +kernel
theorem dX12_comesOn_81 : decode cX12_comesOn 81 = .ok (.irem, 1) := by decide +kernel
theorem dX12_comesOn_82 : decode cX12_comesOn 82 = .ok (.istore 4, 2) := by decide +kernel
theorem dX12_comesOn_84 : decode cX12_comesOn 84 = .ok (.iinc 5 1, 3) := by decide +kernel
theorem dX12_comesOn_87 : decode cX12_comesOn 87 = .ok (.goto (-29), 3) := by decide +kernel
theorem dX12_comesOn_90 : decode cX12_comesOn 90 = .ok (.aload_n 0, 1) := by decide +kernel
theorem dX12_comesOn_91 : decode cX12_comesOn 91 = .ok (.getfield 7, 3) := by decide +kernel
theorem dX12_comesOn_94 : decode cX12_comesOn 94 = .ok (.iload_n 1, 1) := by decide +kernel
theorem dX12_comesOn_95 : decode cX12_comesOn 95 = .ok (.iconst 1, 1) := by decide +kernel
theorem dX12_comesOn_96 : decode cX12_comesOn 96 = .ok (.isub, 1) := by decide +kernel
theorem dX12_comesOn_97 : decode cX12_comesOn 97 = .ok (.iaload, 1) := by decide +kernel
theorem dX12_comesOn_98 : decode cX12_comesOn 98 = .ok (.iload 4, 2) := by decide +kernel
theorem dX12_comesOn_100 : decode cX12_comesOn 100 = .ok (.if_icmp .eq 5, 3) := by decide +kernel
theorem dX12_comesOn_103 : decode cX12_comesOn 103 = .ok (.iconst 0, 1) := by decide +kernel
theorem dX12_comesOn_104 : decode cX12_comesOn 104 = .ok (.ireturn, 1) := by decide +kernel
theorem dX12_comesOn_105 : decode cX12_comesOn 105 = .ok (.aload_n 0, 1) := by decide +kernel
theorem dX12_comesOn_106 : decode cX12_comesOn 106 = .ok (.iconst 1, 1) := by decide +kernel
theorem dX12_comesOn_107 : decode cX12_comesOn 107 = .ok (.iconst 0, 1) := by decide +kernel
theorem dX12_comesOn_108 : decode cX12_comesOn 108 = .ok (.invokevirtual 418, 3) := by decide +kernel
theorem dX12_comesOn_111 : decode cX12_comesOn 111 = .ok (.aload_n 0, 1) := by decide +kernel
theorem dX12_comesOn_112 : decode cX12_comesOn 112 = .ok (.getfield 153, 3) := by decide +kernel
theorem dX12_comesOn_115 : decode cX12_comesOn 115 = .ok (.iconst 1, 1) := by decide +kernel
theorem dX12_comesOn_116 : decode cX12_comesOn 116 = .ok (.aload_n 0, 1) := by decide +kernel
theorem dX12_comesOn_117 : decode cX12_comesOn 117 = .ok (.iconst 0, 1) := by decide +kernel
theorem dX12_comesOn_118 : decode cX12_comesOn 118 = .ok (.invokevirtual 542, 3) := by decide +kernel
theorem dX12_comesOn_121 : decode cX12_comesOn 121 = .ok (.iastore, 1) := by decide +kernel
theorem dX12_comesOn_122 : decode cX12_comesOn 122 = .ok (.aload_n 0, 1) := by decide +kernel
theorem dX12_comesOn_123 : decode cX12_comesOn 123 = .ok (.getfield 168, 3) := by decide +kernel
theorem dX12_comesOn_126 : decode cX12_comesOn 126 = .ok (.iconst 1, 1) := by decide +kernel
theorem dX12_comesOn_127 : decode cX12_comesOn 127 = .ok (.iconst 0, 1) := by decide +kernel
theorem dX12_comesOn_128 : decode cX12_comesOn 128 = .ok (.iastore, 1) := by decide +kernel
theorem dX12_comesOn_129 : decode cX12_comesOn 129 = .ok (.iconst 0, 1) := by decide +kernel
theorem dX12_comesOn_130 : decode cX12_comesOn 130 = .ok (.istore 5, 2) := by decide +kernel
theorem dX12_comesOn_132 : decode cX12_comesOn 132 = .ok (.iload 5, 2) := by decide +kernel
theorem dX12_comesOn_134 : decode cX12_comesOn 134 = .ok (.aload_n 0, 1) := by decide +kernel
theorem dX12_comesOn_135 : decode cX12_comesOn 135 = .ok (.getfield 66, 3) := by decide +kernel
theorem dX12_comesOn_138 : decode cX12_comesOn 138 = .ok (.aload_n 0, 1) := by decide +kernel
theorem dX12_comesOn_139 : decode cX12_comesOn 139 = .ok (.getfield 51, 3) := by decide +kernel
theorem dX12_comesOn_142 : decode cX12_comesOn 142 = .ok (.iaload, 1) := by decide +kernel
theorem dX12_comesOn_143 : decode cX12_comesOn 143 = .ok (.if_icmp .ge 26, 3) := by decide +kernel
theorem dX12_comesOn_146 : decode cX12_comesOn 146 = .ok (.aload_n 0, 1) := by decide +kernel
theorem dX12_comesOn_147 : decode cX12_comesOn 147 = .ok (.iload 5, 2) := by decide +kernel
theorem dX12_comesOn_149 : decode cX12_comesOn 149 = .ok (.iconst 2, 1) := by decide +kernel
theorem dX12_comesOn_150 : decode cX12_comesOn 150 = .ok (.iconst 4, 1) := by decide +kernel
theorem dX12_comesOn_151 : decode cX12_comesOn 151 = .ok (.iload 5, 2) := by decide +kernel
theorem dX12_comesOn_153 : decode cX12_comesOn 153 = .ok (.imul, 1) := by decide +kernel
theorem dX12_comesOn_154 : decode cX12_comesOn 154 = .ok (.iadd, 1) := by decide +kernel
theorem dX12_comesOn_155 : decode cX12_comesOn 155 = .ok (.invokevirtual 571, 3) := by decide +kernel
theorem dX12_comesOn_158 : decode cX12_comesOn 158 = .ok (.ifCond .ne 5, 3) := by decide +kernel
theorem dX12_comesOn_161 : decode cX12_comesOn 161 = .ok (.iconst 0, 1) := by decide +kernel
theorem dX12_comesOn_162 : decode cX12_comesOn 162 = .ok (.ireturn, 1) := by decide +kernel
theorem dX12_comesOn_163 : decode cX12_comesOn 163 = .ok (.iinc 5 1, 3) := by decide +kernel
theorem dX12_comesOn_166 : decode cX12_comesOn 166 = .ok (.goto (-34), 3) := by decide +kernel
theorem dX12_comesOn_169 : decode cX12_comesOn 169 = .ok (.iconst 0, 1) := by decide +kernel
theorem dX12_comesOn_170 : decode cX12_comesOn 170 = .ok (.istore 5, 2) := by decide +kernel
theorem dX12_comesOn_172 : decode cX12_comesOn 172 = .ok (.iload 5, 2) := by decide +kernel
theorem dX12_comesOn_174 : decode cX12_comesOn 174 = .ok (.aload_n 0, 1) := by decide +kernel
theorem dX12_comesOn_175 : decode cX12_comesOn 175 = .ok (.getfield 54, 3) := by decide +kernel
theorem dX12_comesOn_178 : decode cX12_comesOn 178 = .ok (.aload_n 0, 1) := by decide +kernel
theorem dX12_comesOn_179 : decode cX12_comesOn 179 = .ok (.getfield 51, 3) := by decide +kernel
theorem dX12_comesOn_182 : decode cX12_comesOn 182 = .ok (.iaload, 1) := by decide +kernel
theorem dX12_comesOn_183 : decode cX12_comesOn 183 = .ok (.if_icmp .ge 21, 3) := by decide +kernel
theorem dX12_comesOn_186 : decode cX12_comesOn 186 = .ok (.aload_n 0, 1) := by decide +kernel
theorem dX12_comesOn_187 : decode cX12_comesOn 187 = .ok (.iconst 1, 1) := by decide +kernel
theorem dX12_comesOn_188 : decode cX12_comesOn 188 = .ok (.iload 5, 2) := by decide +kernel
theorem dX12_comesOn_190 : decode cX12_comesOn 190 = .ok (.invokevirtual 460, 3) := by decide +kernel
theorem dX12_comesOn_193 : decode cX12_comesOn 193 = .ok (.ifCond .ge 5, 3) := by decide +kernel
theorem dX12_comesOn_196 : decode cX12_comesOn 196 = .ok (.iconst 0, 1) := by decide +kernel
theorem dX12_comesOn_197 : decode cX12_comesOn 197 = .ok (.ireturn, 1) := by decide +kernel
theorem dX12_comesOn_198 : decode cX12_comesOn 198 = .ok (.iinc 5 1, 3) := by decide +kernel
theorem dX12_comesOn_201 : decode cX12_comesOn 201 = .ok (.goto (-29), 3) := by decide +kernel
theorem dX12_comesOn_204 : decode cX12_comesOn 204 = .ok (.iconst 0, 1) := by decide +kernel
theorem dX12_comesOn_205 : decode cX12_comesOn 205 = .ok (.istore 5, 2) := by decide +kernel
theorem dX12_comesOn_207 : decode cX12_comesOn 207 = .ok (.iload 5, 2) := by decide +kernel
theorem dX12_comesOn_209 : decode cX12_comesOn 209 = .ok (.iload_n 3, 1) := by decide +kernel
theorem dX12_comesOn_210 : decode cX12_comesOn 210 = .ok (.if_icmp .ge 81, 3) := by decide +kernel
theorem dX12_comesOn_213 : decode cX12_comesOn 213 = .ok (.iconst 0, 1) := by decide +kernel
theorem dX12_comesOn_214 : decode cX12_comesOn 214 = .ok (.istore 6, 2) := by decide +kernel
theorem dX12_comesOn_216 : decode cX12_comesOn 216 = .ok (.iload 6, 2) := by decide +kernel
theorem dX12_comesOn_218 : decode cX12_comesOn 218 = .ok (.iload_n 3, 1) := by decide +kernel
theorem dX12_comesOn_219 : decode cX12_comesOn 219 = .ok (.if_icmp .ge 66, 3) := by decide +kernel
theorem dX12_comesOn_222 : decode cX12_comesOn 222 = .ok (.aload_n 0, 1) := by decide +kernel
theorem dX12_comesOn_223 : decode cX12_comesOn 223 = .ok (.iload_n 2, 1) := by decide +kernel
theorem dX12_comesOn_224 : decode cX12_comesOn 224 = .ok (.iconst 2, 1) := by decide +kernel
theorem dX12_comesOn_225 : decode cX12_comesOn 225 = .ok (.iload_n 3, 1) := by decide +kernel
theorem dX12_comesOn_226 : decode cX12_comesOn 226 = .ok (.iload 5, 2) := by decide +kernel
theorem dX12_comesOn_228 : decode cX12_comesOn 228 = .ok (.imul, 1) := by decide +kernel
theorem dX12_comesOn_229 : decode cX12_comesOn 229 = .ok (.iload 6, 2) := by decide +kernel
theorem dX12_comesOn_231 : decode cX12_comesOn 231 = .ok (.iadd, 1) := by decide +kernel
theorem dX12_comesOn_232 : decode cX12_comesOn 232 = .ok (.imul, 1) := by decide +kernel
theorem dX12_comesOn_233 : decode cX12_comesOn 233 = .ok (.iadd, 1) := by decide +kernel
theorem dX12_comesOn_234 : decode cX12_comesOn 234 = .ok (.invokevirtual 542, 3) := by decide +kernel
theorem dX12_comesOn_237 : decode cX12_comesOn 237 = .ok (.istore 7, 2) := by decide +kernel
theorem dX12_comesOn_239 : decode cX12_comesOn 239 = .ok (.iload 7, 2) := by decide +kernel
theorem dX12_comesOn_241 : decode cX12_comesOn 241 = .ok (.sipush 9999, 3) := by decide +kernel
theorem dX12_comesOn_244 : decode cX12_comesOn 244 = .ok (.if_icmp .gt 15, 3) := by decide +kernel
theorem dX12_comesOn_247 : decode cX12_comesOn 247 = .ok (.iload 5, 2) := by decide +kernel
theorem dX12_comesOn_249 : decode cX12_comesOn 249 = .ok (.iload 6, 2) := by decide +kernel
theorem dX12_comesOn_251 : decode cX12_comesOn 251 = .ok (.if_icmp .ne 10, 3) := by decide +kernel
theorem dX12_comesOn_254 : decode cX12_comesOn 254 = .ok (.iload 7, 2) := by decide +kernel
theorem dX12_comesOn_256 : decode cX12_comesOn 256 = .ok (.ifCond .le 5, 3) := by decide +kernel
theorem dX12_comesOn_259 : decode cX12_comesOn 259 = .ok (.iconst 0, 1) := by decide +kernel
theorem dX12_comesOn_260 : decode cX12_comesOn 260 = .ok (.ireturn, 1) := by decide +kernel
theorem dX12_comesOn_261 : decode cX12_comesOn 261 = .ok (.aload_n 0, 1) := by decide +kernel
theorem dX12_comesOn_262 : decode cX12_comesOn 262 = .ok (.getfield 165, 3) := by decide +kernel
theorem dX12_comesOn_265 : decode cX12_comesOn 265 = .ok (.bipush 36, 2) := by decide +kernel
theorem dX12_comesOn_267 : decode cX12_comesOn 267 = .ok (.bipush 6, 2) := by decide +kernel
theorem dX12_comesOn_269 : decode cX12_comesOn 269 = .ok (.iload 5, 2) := by decide +kernel
theorem dX12_comesOn_271 : decode cX12_comesOn 271 = .ok (.imul, 1) := by decide +kernel
theorem dX12_comesOn_272 : decode cX12_comesOn 272 = .ok (.iadd, 1) := by decide +kernel
theorem dX12_comesOn_273 : decode cX12_comesOn 273 = .ok (.iload 6, 2) := by decide +kernel
theorem dX12_comesOn_275 : decode cX12_comesOn 275 = .ok (.iadd, 1) := by decide +kernel
theorem dX12_comesOn_276 : decode cX12_comesOn 276 = .ok (.iload 7, 2) := by decide +kernel
theorem dX12_comesOn_278 : decode cX12_comesOn 278 = .ok (.iastore, 1) := by decide +kernel
theorem dX12_comesOn_279 : decode cX12_comesOn 279 = .ok (.iinc 6 1, 3) := by decide +kernel
theorem dX12_comesOn_282 : decode cX12_comesOn 282 = .ok (.goto (-66), 3) := by decide +kernel
theorem dX12_comesOn_285 : decode cX12_comesOn 285 = .ok (.iinc 5 1, 3) := by decide +kernel
theorem dX12_comesOn_288 : decode cX12_comesOn 288 = .ok (.goto (-81), 3) := by decide +kernel
theorem dX12_comesOn_291 : decode cX12_comesOn 291 = .ok (.iconst 1, 1) := by decide +kernel
theorem dX12_comesOn_292 : decode cX12_comesOn 292 = .ok (.ireturn, 1) := by decide +kernel
theorem dX12_on_0 : decode cX12_on 0 = .ok (.aload_n 0, 1) := by decide +kernel
theorem dX12_on_1 : decode cX12_on 1 = .ok (.getfield 13, 3) := by decide +kernel
theorem dX12_on_4 : decode cX12_on 4 = .ok (.istore_n 1, 1) := by decide +kernel
theorem dX12_on_5 : decode cX12_on 5 = .ok (.aload_n 0, 1) := by decide +kernel
theorem dX12_on_6 : decode cX12_on 6 = .ok (.iconst 0, 1) := by decide +kernel
theorem dX12_on_7 : decode cX12_on 7 = .ok (.putfield 13, 3) := by decide +kernel
theorem dX12_on_10 : decode cX12_on 10 = .ok (.aload_n 0, 1) := by decide +kernel
theorem dX12_on_11 : decode cX12_on 11 = .ok (.iload_n 1, 1) := by decide +kernel
theorem dX12_on_12 : decode cX12_on 12 = .ok (.invokevirtual 574, 3) := by decide +kernel
theorem dX12_on_15 : decode cX12_on 15 = .ok (.ifCond .ne 17, 3) := by decide +kernel
theorem dX12_on_18 : decode cX12_on 18 = .ok (.aload_n 0, 1) := by decide +kernel
theorem dX12_on_19 : decode cX12_on 19 = .ok (.iconst 5, 1) := by decide +kernel
theorem dX12_on_20 : decode cX12_on 20 = .ok (.invokevirtual 229, 3) := by decide +kernel
theorem dX12_on_23 : decode cX12_on 23 = .ok (.ifCond .lt 7, 3) := by decide +kernel
theorem dX12_on_26 : decode cX12_on 26 = .ok (.iconst 1, 1) := by decide +kernel
theorem dX12_on_27 : decode cX12_on 27 = .ok (.goto 4, 3) := by decide +kernel
theorem dX12_on_30 : decode cX12_on 30 = .ok (.iconst 0, 1) := by decide +kernel
theorem dX12_on_31 : decode cX12_on 31 = .ok (.ireturn, 1) := by decide +kernel
theorem dX12_on_32 : decode cX12_on 32 = .ok (.aload_n 0, 1) := by decide +kernel
theorem dX12_on_33 : decode cX12_on 33 = .ok (.iconst 0, 1) := by decide +kernel
theorem dX12_on_34 : decode cX12_on 34 = .ok (.iconst 1, 1) := by decide +kernel
theorem dX12_on_35 : decode cX12_on 35 = .ok (.invokevirtual 418, 3) := by decide +kernel
theorem dX12_on_38 : decode cX12_on 38 = .ok (.aload_n 0, 1) := by decide +kernel
theorem dX12_on_39 : decode cX12_on 39 = .ok (.iconst 0, 1) := by decide +kernel
theorem dX12_on_40 : decode cX12_on 40 = .ok (.putfield 177, 3) := by decide +kernel
theorem dX12_on_43 : decode cX12_on 43 = .ok (.iconst 1, 1) := by decide +kernel
theorem dX12_on_44 : decode cX12_on 44 = .ok (.ireturn, 1) := by decide +kernel
