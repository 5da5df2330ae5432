theorem dX0_init_0 : decode cX0_init 0 = .ok (.aload_n 0, 1) := by decide +kernel
theorem dX0_init_1 : decode cX0_init 1 = .ok (.invokespecial 3, 3) := by decide +kernel
theorem dX0_init_4 : decode cX0_init 4 = .ok (.aload_n 0, 1) := by decide +kernel
theorem dX0_init_5 : decode cX0_init 5 = .ok (.new 9, 3) := by decide +kernel
theorem dX0_init_8 : decode cX0_init 8 = .ok (.dup, 1) := by decide +kernel
theorem dX0_init_9 : decode cX0_init 9 = .ok (.invokespecial 11, 3) := by decide +kernel
theorem dX0_init_12 : decode cX0_init 12 = .ok (.putfield 12, 3) := by decide +kernel
theorem dX0_init_15 : decode cX0_init 15 = .ok (.aload_n 0, 1) := by decide +kernel
theorem dX0_init_16 : decode cX0_init 16 = .ok (.bipush 6, 2) := by decide +kernel
theorem dX0_init_18 : decode cX0_init 18 = .ok (.newarray .int, 2) := by decide +kernel
theorem dX0_init_20 : decode cX0_init 20 = .ok (.putfield 18, 3) := by decide +kernel
theorem dX0_init_23 : decode cX0_init 23 = .ok (.aload_n 0, 1) := by decide +kernel
theorem dX0_init_24 : decode cX0_init 24 = .ok (.iconst (-1), 1) := by decide +kernel
theorem dX0_init_25 : decode cX0_init 25 = .ok (.putfield 22, 3) := by decide +kernel
theorem dX0_init_28 : decode cX0_init 28 = .ok (.getstatic 26, 3) := by decide +kernel
theorem dX0_init_31 : decode cX0_init 31 = .ok (.iconst 0, 1) := by decide +kernel
theorem dX0_init_32 : decode cX0_init 32 = .ok (.aload_n 0, 1) := by decide +kernel
theorem dX0_init_33 : decode cX0_init 33 = .ok (.getfield 18, 3) := by decide +kernel
theorem dX0_init_36 : decode cX0_init 36 = .ok (.iconst 0, 1) := by decide +kernel
theorem dX0_init_37 : decode cX0_init 37 = .ok (.bipush 6, 2) := by decide +kernel
theorem dX0_init_39 : decode cX0_init 39 = .ok (.invokestatic 29, 3) := by decide +kernel
theorem dX0_init_42 : decode cX0_init 42 = .ok (.return_, 1) := by decide +kernel
theorem dX0_take_0 : decode cX0_take 0 = .ok (.aload_n 0, 1) := by decide +kernel
theorem dX0_take_1 : decode cX0_take 1 = .ok (.getfield 12, 3) := by decide +kernel
theorem dX0_take_4 : decode cX0_take 4 = .ok (.aload_n 1, 1) := by decide +kernel
theorem dX0_take_5 : decode cX0_take 5 = .ok (.invokevirtual 35, 3) := by decide +kernel
theorem dX0_take_8 : decode cX0_take 8 = .ok (.istore_n 2, 1) := by decide +kernel
theorem dX0_take_9 : decode cX0_take 9 = .ok (.aload_n 0, 1) := by decide +kernel
theorem dX0_take_10 : decode cX0_take 10 = .ok (.iload_n 2, 1) := by decide +kernel
theorem dX0_take_11 : decode cX0_take 11 = .ok (.ifCond .ne 7, 3) := by decide +kernel
theorem dX0_take_14 : decode cX0_take 14 = .ok (.iconst (-1), 1) := by decide +kernel
theorem dX0_take_15 : decode cX0_take 15 = .ok (.goto 10, 3) := by decide +kernel
theorem dX0_take_18 : decode cX0_take 18 = .ok (.aload_n 0, 1) := by decide +kernel
theorem dX0_take_19 : decode cX0_take 19 = .ok (.getfield 12, 3) := by decide +kernel
theorem dX0_take_22 : decode cX0_take 22 = .ok (.getfield 39, 3) := by decide +kernel
theorem dX0_take_25 : decode cX0_take 25 = .ok (.putfield 22, 3) := by decide +kernel
theorem dX0_take_28 : decode cX0_take 28 = .ok (.iload_n 2, 1) := by decide +kernel
theorem dX0_take_29 : decode cX0_take 29 = .ok (.ifCond .ne 21, 3) := by decide +kernel
theorem dX0_take_32 : decode cX0_take 32 = .ok (.aload_n 0, 1) := by decide +kernel
theorem dX0_take_33 : decode cX0_take 33 = .ok (.getfield 12, 3) := by decide +kernel
theorem dX0_take_36 : decode cX0_take 36 = .ok (.getfield 42, 3) := by decide +kernel
theorem dX0_take_39 : decode cX0_take 39 = .ok (.iconst 0, 1) := by decide +kernel
theorem dX0_take_40 : decode cX0_take 40 = .ok (.aload_n 0, 1) := by decide +kernel
theorem dX0_take_41 : decode cX0_take 41 = .ok (.getfield 18, 3) := by decide +kernel
theorem dX0_take_44 : decode cX0_take 44 = .ok (.iconst 0, 1) := by decide +kernel
theorem dX0_take_45 : decode cX0_take 45 = .ok (.bipush 6, 2) := by decide +kernel
theorem dX0_take_47 : decode cX0_take 47 = .ok (.invokestatic 29, 3) := by decide +kernel
theorem dX0_take_50 : decode cX0_take 50 = .ok (.iload_n 2, 1) := by decide +kernel
theorem dX0_take_51 : decode cX0_take 51 = .ok (.ireturn, 1) := by decide +kernel
theorem dX0_inForce_0 : decode cX0_inForce 0 = .ok (.iload_n 1, 1) := by decide +kernel
theorem dX0_inForce_1 : decode cX0_inForce 1 = .ok (.iconst 0, 1) := by decide +kernel
theorem dX0_inForce_2 : decode cX0_inForce 2 = .ok (.iconst 5, 1) := by decide +kernel
theorem dX0_inForce_3 : decode cX0_inForce 3 = .ok (.invokestatic 45, 3) := by decide +kernel
theorem dX0_inForce_6 : decode cX0_inForce 6 = .ok (.ifCond .eq 12, 3) := by decide +kernel
theorem dX0_inForce_9 : decode cX0_inForce 9 = .ok (.aload_n 0, 1) := by decide +kernel
theorem dX0_inForce_10 : decode cX0_inForce 10 = .ok (.getfield 18, 3) := by decide +kernel
theorem dX0_inForce_13 : decode cX0_inForce 13 = .ok (.iload_n 1, 1) := by decide +kernel
theorem dX0_inForce_14 : decode cX0_inForce 14 = .ok (.iaload, 1) := by decide +kernel
theorem dX0_inForce_15 : decode cX0_inForce 15 = .ok (.goto 4, 3) := by decide +kernel
theorem dX0_inForce_18 : decode cX0_inForce 18 = .ok (.iconst (-1), 1) := by decide +kernel
theorem dX0_inForce_19 : decode cX0_inForce 19 = .ok (.ireturn, 1) := by decide +kernel
theorem dX1_init_0 : decode cX1_init 0 = .ok (.aload_n 0, 1) := by decide +kernel
theorem dX1_init_1 : decode cX1_init 1 = .ok (.invokespecial 3, 3) := by decide +kernel
theorem dX1_init_4 : decode cX1_init 4 = .ok (.aload_n 0, 1) := by decide +kernel
theorem dX1_init_5 : decode cX1_init 5 = .ok (.bipush 6, 2) := by decide +kernel
theorem dX1_init_7 : decode cX1_init 7 = .ok (.newarray .int, 2) := by decide +kernel
theorem dX1_init_9 : decode cX1_init 9 = .ok (.putfield 9, 3) := by decide +kernel
theorem dX1_init_12 : decode cX1_init 12 = .ok (.aload_n 0, 1) := by decide +kernel
theorem dX1_init_13 : decode cX1_init 13 = .ok (.iconst 0, 1) := by decide +kernel
theorem dX1_init_14 : decode cX1_init 14 = .ok (.putfield 15, 3) := by decide +kernel
theorem dX1_init_17 : decode cX1_init 17 = .ok (.aload_n 0, 1) := by decide +kernel
theorem dX1_init_18 : decode cX1_init 18 = .ok (.iconst 0, 1) := by decide +kernel
theorem dX1_init_19 : decode cX1_init 19 = .ok (.putfield 19, 3) := by decide +kernel
theorem dX1_init_22 : decode cX1_init 22 = .ok (.aload_n 0, 1) := by decide +kernel
theorem dX1_init_23 : decode cX1_init 23 = .ok (.iconst 0, 1) := by decide +kernel
theorem dX1_init_24 : decode cX1_init 24 = .ok (.putfield 22, 3) := by decide +kernel
theorem dX1_init_27 : decode cX1_init 27 = .ok (.aload_n 0, 1) := by decide +kernel
theorem dX1_init_28 : decode cX1_init 28 = .ok (.iconst 0, 1) := by decide +kernel
theorem dX1_init_29 : decode cX1_init 29 = .ok (.putfield 25, 3) := by decide +kernel
theorem dX1_init_32 : decode cX1_init 32 = .ok (.return_, 1) := by decide +kernel
theorem dX1_read_0 : decode cX1_read 0 = .ok (.getstatic 28, 3) := by decide +kernel
theorem dX1_read_3 : decode cX1_read 3 = .ok (.iconst 0, 1) := by decide +kernel
theorem dX1_read_4 : decode cX1_read 4 = .ok (.aload_n 0, 1) := by decide +kernel
theorem dX1_read_5 : decode cX1_read 5 = .ok (.getfield 9, 3) := by decide +kernel
theorem dX1_read_8 : decode cX1_read 8 = .ok (.iconst 0, 1) := by decide +kernel
theorem dX1_read_9 : decode cX1_read 9 = .ok (.bipush 6, 2) := by decide +kernel
theorem dX1_read_11 : decode cX1_read 11 = .ok (.invokestatic 31, 3) := by decide +kernel
theorem dX1_read_14 : decode cX1_read 14 = .ok (.aload_n 0, 1) := by decide +kernel
theorem dX1_read_15 : decode cX1_read 15 = .ok (.iconst 0, 1) := by decide +kernel
theorem dX1_read_16 : decode cX1_read 16 = .ok (.putfield 22, 3) := by decide +kernel
theorem dX1_read_19 : decode cX1_read 19 = .ok (.aload_n 0, 1) := by decide +kernel
theorem dX1_read_20 : decode cX1_read 20 = .ok (.iconst 0, 1) := by decide +kernel
theorem dX1_read_21 : decode cX1_read 21 = .ok (.putfield 25, 3) := by decide +kernel
theorem dX1_read_24 : decode cX1_read 24 = .ok (.aload_n 0, 1) := by decide +kernel
theorem dX1_read_25 : decode cX1_read 25 = .ok (.aload_n 1, 1) := by decide +kernel
theorem dX1_read_26 : decode cX1_read 26 = .ok (.invokevirtual 37, 3) := by decide +kernel
theorem dX1_read_29 : decode cX1_read 29 = .ok (.iconst 0, 1) := by decide +kernel
theorem dX1_read_30 : decode cX1_read 30 = .ok (.istore_n 2, 1) := by decide +kernel
theorem dX1_read_31 : decode cX1_read 31 = .ok (.iload_n 2, 1) := by decide +kernel
theorem dX1_read_32 : decode cX1_read 32 = .ok (.sipush 300, 3) := by decide +kernel
theorem dX1_read_35 : decode cX1_read 35 = .ok (.if_icmp .ge 28, 3) := by decide +kernel
theorem dX1_read_38 : decode cX1_read 38 = .ok (.aload_n 0, 1) := by decide +kernel
theorem dX1_read_39 : decode cX1_read 39 = .ok (.getfield 25, 3) := by decide +kernel
theorem dX1_read_42 : decode cX1_read 42 = .ok (.ifCond .ne 21, 3) := by decide +kernel
theorem dX1_read_45 : decode cX1_read 45 = .ok (.aload_n 0, 1) := by decide +kernel
theorem dX1_read_46 : decode cX1_read 46 = .ok (.getfield 15, 3) := by decide +kernel
theorem dX1_read_49 : decode cX1_read 49 = .ok (.ifCond .eq 14, 3) := by decide +kernel
theorem dX1_read_52 : decode cX1_read 52 = .ok (.aload_n 0, 1) := by decide +kernel
theorem dX1_read_53 : decode cX1_read 53 = .ok (.aload_n 1, 1) := by decide +kernel
theorem dX1_read_54 : decode cX1_read 54 = .ok (.invokevirtual 41, 3) := by decide +kernel
theorem dX1_read_57 : decode cX1_read 57 = .ok (.iinc 2 1, 3) := by decide +kernel
theorem dX1_read_60 : decode cX1_read 60 = .ok (.goto (-29), 3) := by decide +kernel
theorem dX1_read_63 : decode cX1_read 63 = .ok (.aload_n 0, 1) := by decide +kernel
theorem dX1_read_64 : decode cX1_read 64 = .ok (.getfield 25, 3) := by decide +kernel
theorem dX1_read_67 : decode cX1_read 67 = .ok (.ireturn, 1) := by decide +kernel
theorem dX1_readLaw_0 : decode cX1_readLaw 0 = .ok (.aload_n 0, 1) := by decide +kernel
theorem dX1_readLaw_1 : decode cX1_readLaw 1 = .ok (.aload_n 1, 1) := by decide +kernel
theorem dX1_readLaw_2 : decode cX1_readLaw 2 = .ok (.invokevirtual 44, 3) := by decide +kernel
theorem dX1_readLaw_5 : decode cX1_readLaw 5 = .ok (.astore_n 2, 1) := by decide +kernel
theorem dX1_readLaw_6 : decode cX1_readLaw 6 = .ok (.aload_n 2, 1) := by decide +kernel
theorem dX1_readLaw_7 : decode cX1_readLaw 7 = .ok (.ifnonnull 9, 3) := by decide +kernel
theorem dX1_readLaw_10 : decode cX1_readLaw 10 = .ok (.aload_n 0, 1) := by decide +kernel
theorem dX1_readLaw_11 : decode cX1_readLaw 11 = .ok (.iconst 1, 1) := by decide +kernel
theorem dX1_readLaw_12 : decode cX1_readLaw 12 = .ok (.putfield 25, 3) := by decide +kernel
theorem dX1_readLaw_15 : decode cX1_readLaw 15 = .ok (.return_, 1) := by decide +kernel
theorem dX1_readLaw_16 : decode cX1_readLaw 16 = .ok (.aload_n 0, 1) := by decide +kernel
theorem dX1_readLaw_17 : decode cX1_readLaw 17 = .ok (.aload_n 1, 1) := by decide +kernel
theorem dX1_readLaw_18 : decode cX1_readLaw 18 = .ok (.invokevirtual 37, 3) := by decide +kernel
theorem dX1_readLaw_21 : decode cX1_readLaw 21 = .ok (.aload_n 2, 1) := by decide +kernel
theorem dX1_readLaw_22 : decode cX1_readLaw 22 = .ok (.getfield 48, 3) := by decide +kernel
theorem dX1_readLaw_25 : decode cX1_readLaw 25 = .ok (.ifCond .eq 19, 3) := by decide +kernel
theorem dX1_readLaw_28 : decode cX1_readLaw 28 = .ok (.aload_n 0, 1) := by decide +kernel
theorem dX1_readLaw_29 : decode cX1_readLaw 29 = .ok (.aload_n 1, 1) := by decide +kernel
theorem dX1_readLaw_30 : decode cX1_readLaw 30 = .ok (.aload_n 2, 1) := by decide +kernel
theorem dX1_readLaw_31 : decode cX1_readLaw 31 = .ok (.getfield 54, 3) := by decide +kernel
theorem dX1_readLaw_34 : decode cX1_readLaw 34 = .ok (.aload_n 2, 1) := by decide +kernel
theorem dX1_readLaw_35 : decode cX1_readLaw 35 = .ok (.getfield 57, 3) := by decide +kernel
theorem dX1_readLaw_38 : decode cX1_readLaw 38 = .ok (.invokevirtual 60, 3) := by decide +kernel
theorem dX1_readLaw_41 : decode cX1_readLaw 41 = .ok (.goto 7, 3) := by decide +kernel
theorem dX1_readLaw_44 : decode cX1_readLaw 44 = .ok (.aload_n 2, 1) := by decide +kernel
theorem dX1_readLaw_45 : decode cX1_readLaw 45 = .ok (.getfield 54, 3) := by decide +kernel
theorem dX1_readLaw_48 : decode cX1_readLaw 48 = .ok (.istore_n 3, 1) := by decide +kernel
theorem dX1_readLaw_49 : decode cX1_readLaw 49 = .ok (.aload_n 0, 1) := by decide +kernel
theorem dX1_readLaw_50 : decode cX1_readLaw 50 = .ok (.getfield 25, 3) := by decide +kernel
theorem dX1_readLaw_53 : decode cX1_readLaw 53 = .ok (.ifCond .ne 16, 3) := by decide +kernel
theorem dX1_readLaw_56 : decode cX1_readLaw 56 = .ok (.aload_n 0, 1) := by decide +kernel
theorem dX1_readLaw_57 : decode cX1_readLaw 57 = .ok (.getfield 15, 3) := by decide +kernel
theorem dX1_readLaw_60 : decode cX1_readLaw 60 = .ok (.iconst 3, 1) := by decide +kernel
theorem dX1_readLaw_61 : decode cX1_readLaw 61 = .ok (.if_icmp .eq 8, 3) := by decide +kernel
theorem dX1_readLaw_64 : decode cX1_readLaw 64 = .ok (.aload_n 0, 1) := by decide +kernel
theorem dX1_readLaw_65 : decode cX1_readLaw 65 = .ok (.iconst 1, 1) := by decide +kernel
theorem dX1_readLaw_66 : decode cX1_readLaw 66 = .ok (.putfield 25, 3) := by decide +kernel
theorem dX1_readLaw_69 : decode cX1_readLaw 69 = .ok (.aload_n 0, 1) := by decide +kernel
theorem dX1_readLaw_70 : decode cX1_readLaw 70 = .ok (.getfield 25, 3) := by decide +kernel
theorem dX1_readLaw_73 : decode cX1_readLaw 73 = .ok (.ifCond .ne 18, 3) := by decide +kernel
theorem dX1_readLaw_76 : decode cX1_readLaw 76 = .ok (.aload_n 0, 1) := by decide +kernel
theorem dX1_readLaw_77 : decode cX1_readLaw 77 = .ok (.getfield 9, 3) := by decide +kernel
theorem dX1_readLaw_80 : decode cX1_readLaw 80 = .ok (.aload_n 2, 1) := by decide +kernel
theorem dX1_readLaw_81 : decode cX1_readLaw 81 = .ok (.getfield 64, 3) := by decide +kernel
theorem dX1_readLaw_84 : decode cX1_readLaw 84 = .ok (.iload_n 3, 1) := by decide +kernel
theorem dX1_readLaw_85 : decode cX1_readLaw 85 = .ok (.iastore, 1) := by decide +kernel
theorem dX1_readLaw_86 : decode cX1_readLaw 86 = .ok (.aload_n 0, 1) := by decide +kernel
theorem dX1_readLaw_87 : decode cX1_readLaw 87 = .ok (.aload_n 1, 1) := by decide +kernel
theorem dX1_readLaw_88 : decode cX1_readLaw 88 = .ok (.invokevirtual 37, 3) := by decide +kernel
theorem dX1_readLaw_91 : decode cX1_readLaw 91 = .ok (.return_, 1) := by decide +kernel
theorem dX1_readNumber_0 : decode cX1_readNumber 0 = .ok (.aload_n 0, 1) := by decide +kernel
theorem dX1_readNumber_1 : decode cX1_readNumber 1 = .ok (.getfield 15, 3) := by decide +kernel
theorem dX1_readNumber_4 : decode cX1_readNumber 4 = .ok (.iconst 2, 1) := by decide +kernel
theorem dX1_readNumber_5 : decode cX1_readNumber 5 = .ok (.if_icmp .eq 10, 3) := by decide +kernel
theorem dX1_readNumber_8 : decode cX1_readNumber 8 = .ok (.aload_n 0, 1) := by decide +kernel
theorem dX1_readNumber_9 : decode cX1_readNumber 9 = .ok (.iconst 1, 1) := by decide +kernel
theorem dX1_readNumber_10 : decode cX1_readNumber 10 = .ok (.putfield 25, 3) := by decide +kernel
theorem dX1_readNumber_13 : decode cX1_readNumber 13 = .ok (.iconst (-1), 1) := by decide +kernel
theorem dX1_readNumber_14 : decode cX1_readNumber 14 = .ok (.ireturn, 1) := by decide +kernel
theorem dX1_readNumber_15 : decode cX1_readNumber 15 = .ok (.iconst 0, 1) := by decide +kernel
theorem dX1_readNumber_16 : decode cX1_readNumber 16 = .ok (.istore 4, 2) := by decide +kernel
theorem dX1_readNumber_18 : decode cX1_readNumber 18 = .ok (.aload_n 0, 1) := by decide +kernel
theorem dX1_readNumber_19 : decode cX1_readNumber 19 = .ok (.getfield 19, 3) := by decide +kernel
theorem dX1_readNumber_22 : decode cX1_readNumber 22 = .ok (.istore 5, 2) := by decide +kernel
theorem dX1_readNumber_24 : decode cX1_readNumber 24 = .ok (.iload 5, 2) := by decide +kernel
theorem dX1_readNumber_26 : decode cX1_readNumber 26 = .ok (.aload_n 0, 1) := by decide +kernel
theorem dX1_readNumber_27 : decode cX1_readNumber 27 = .ok (.getfield 22, 3) := by decide +kernel
theorem dX1_readNumber_30 : decode cX1_readNumber 30 = .ok (.if_icmp .ge 26, 3) := by decide +kernel
theorem dX1_readNumber_33 : decode cX1_readNumber 33 = .ok (.iload 4, 2) := by decide +kernel
theorem dX1_readNumber_35 : decode cX1_readNumber 35 = .ok (.bipush 10, 2) := by decide +kernel
theorem dX1_readNumber_37 : decode cX1_readNumber 37 = .ok (.imul, 1) := by decide +kernel
theorem dX1_readNumber_38 : decode cX1_readNumber 38 = .ok (.aload_n 1, 1) := by decide +kernel
theorem dX1_readNumber_39 : decode cX1_readNumber 39 = .ok (.iload 5, 2) := by decide +kernel
theorem dX1_readNumber_41 : decode cX1_readNumber 41 = .ok (.invokevirtual 67, 3) := by decide +kernel
theorem dX1_readNumber_44 : decode cX1_readNumber 44 = .ok (.iadd, 1) := by decide +kernel
theorem dX1_readNumber_45 : decode cX1_readNumber 45 = .ok (.bipush 48, 2) := by decide +kernel
theorem dX1_readNumber_47 : decode cX1_readNumber 47 = .ok (.isub, 1) := by decide +kernel
theorem dX1_readNumber_48 : decode cX1_readNumber 48 = .ok (.istore 4, 2) := by decide +kernel
theorem dX1_readNumber_50 : decode cX1_readNumber 50 = .ok (.iinc 5 1, 3) := by decide +kernel
theorem dX1_readNumber_53 : decode cX1_readNumber 53 = .ok (.goto (-29), 3) := by decide +kernel
theorem dX1_readNumber_56 : decode cX1_readNumber 56 = .ok (.iload 4, 2) := by decide +kernel
theorem dX1_readNumber_58 : decode cX1_readNumber 58 = .ok (.iload_n 2, 1) := by decide +kernel
theorem dX1_readNumber_59 : decode cX1_readNumber 59 = .ok (.iload_n 3, 1) := by decide +kernel
theorem dX1_readNumber_60 : decode cX1_readNumber 60 = .ok (.invokestatic 73, 3) := by decide +kernel
theorem dX1_readNumber_63 : decode cX1_readNumber 63 = .ok (.ifCond .ne 10, 3) := by decide +kernel
theorem dX1_readNumber_66 : decode cX1_readNumber 66 = .ok (.aload_n 0, 1) := by decide +kernel
theorem dX1_readNumber_67 : decode cX1_readNumber 67 = .ok (.iconst 2, 1) := by decide +kernel
theorem dX1_readNumber_68 : decode cX1_readNumber 68 = .ok (.putfield 25, 3) := by decide +kernel
theorem dX1_readNumber_71 : decode cX1_readNumber 71 = .ok (.iconst (-1), 1) := by decide +kernel
theorem dX1_readNumber_72 : decode cX1_readNumber 72 = .ok (.ireturn, 1) := by decide +kernel
theorem dX1_readNumber_73 : decode cX1_readNumber 73 = .ok (.aload_n 0, 1) := by decide +kernel
theorem dX1_readNumber_74 : decode cX1_readNumber 74 = .ok (.aload_n 1, 1) := by decide +kernel
theorem dX1_readNumber_75 : decode cX1_readNumber 75 = .ok (.invokevirtual 37, 3) := by decide +kernel
theorem dX1_readNumber_78 : decode cX1_readNumber 78 = .ok (.iload 4, 2) := by decide +kernel
theorem dX1_readNumber_80 : decode cX1_readNumber 80 = .ok (.ireturn, 1) := by decide +kernel
theorem dX1_wordAtHand_0 : decode cX1_wordAtHand 0 = .ok (.aload_n 0, 1) := by decide +kernel
theorem dX1_wordAtHand_1 : decode cX1_wordAtHand 1 = .ok (.getfield 15, 3) := by decide +kernel
theorem dX1_wordAtHand_4 : decode cX1_wordAtHand 4 = .ok (.iconst 1, 1) := by decide +kernel
theorem dX1_wordAtHand_5 : decode cX1_wordAtHand 5 = .ok (.if_icmp .ne 41, 3) := by decide +kernel
theorem dX1_wordAtHand_8 : decode cX1_wordAtHand 8 = .ok (.iconst 0, 1) := by decide +kernel
theorem dX1_wordAtHand_9 : decode cX1_wordAtHand 9 = .ok (.istore_n 2, 1) := by decide +kernel
theorem dX1_wordAtHand_10 : decode cX1_wordAtHand 10 = .ok (.iload_n 2, 1) := by decide +kernel
theorem dX1_wordAtHand_11 : decode cX1_wordAtHand 11 = .ok (.getstatic 77, 3) := by decide +kernel
theorem dX1_wordAtHand_14 : decode cX1_wordAtHand 14 = .ok (.arraylength, 1) := by decide +kernel
theorem dX1_wordAtHand_15 : decode cX1_wordAtHand 15 = .ok (.if_icmp .ge 31, 3) := by decide +kernel
theorem dX1_wordAtHand_18 : decode cX1_wordAtHand 18 = .ok (.aload_n 0, 1) := by decide +kernel
theorem dX1_wordAtHand_19 : decode cX1_wordAtHand 19 = .ok (.aload_n 1, 1) := by decide +kernel
theorem dX1_wordAtHand_20 : decode cX1_wordAtHand 20 = .ok (.getstatic 77, 3) := by decide +kernel
theorem dX1_wordAtHand_23 : decode cX1_wordAtHand 23 = .ok (.iload_n 2, 1) := by decide +kernel
theorem dX1_wordAtHand_24 : decode cX1_wordAtHand 24 = .ok (.aaload, 1) := by decide +kernel
theorem dX1_wordAtHand_25 : decode cX1_wordAtHand 25 = .ok (.getfield 81, 3) := by decide +kernel
theorem dX1_wordAtHand_28 : decode cX1_wordAtHand 28 = .ok (.invokevirtual 85, 3) := by decide +kernel
theorem dX1_wordAtHand_31 : decode cX1_wordAtHand 31 = .ok (.ifCond .eq 9, 3) := by decide +kernel
theorem dX1_wordAtHand_34 : decode cX1_wordAtHand 34 = .ok (.getstatic 77, 3) := by decide +kernel
theorem dX1_wordAtHand_37 : decode cX1_wordAtHand 37 = .ok (.iload_n 2, 1) := by decide +kernel
theorem dX1_wordAtHand_38 : decode cX1_wordAtHand 38 = .ok (.aaload, 1) := by decide +kernel
theorem dX1_wordAtHand_39 : decode cX1_wordAtHand 39 = .ok (.areturn, 1) := by decide +kernel
theorem dX1_wordAtHand_40 : decode cX1_wordAtHand 40 = .ok (.iinc 2 1, 3) := by decide +kernel
theorem dX1_wordAtHand_43 : decode cX1_wordAtHand 43 = .ok (.goto (-33), 3) := by decide +kernel
theorem dX1_wordAtHand_46 : decode cX1_wordAtHand 46 = .ok (.aconst_null, 1) := by decide +kernel
theorem dX1_wordAtHand_47 : decode cX1_wordAtHand 47 = .ok (.areturn, 1) := by decide +kernel
theorem dX1_spells_0 : decode cX1_spells 0 = .ok (.aload_n 0, 1) := by decide +kernel
theorem dX1_spells_1 : decode cX1_spells 1 = .ok (.getfield 22, 3) := by decide +kernel
theorem dX1_spells_4 : decode cX1_spells 4 = .ok (.aload_n 0, 1) := by decide +kernel
theorem dX1_spells_5 : decode cX1_spells 5 = .ok (.getfield 19, 3) := by decide +kernel
theorem dX1_spells_8 : decode cX1_spells 8 = .ok (.isub, 1) := by decide +kernel
theorem dX1_spells_9 : decode cX1_spells 9 = .ok (.aload_n 2, 1) := by decide +kernel
theorem dX1_spells_10 : decode cX1_spells 10 = .ok (.invokevirtual 89, 3) := by decide +kernel
theorem dX1_spells_13 : decode cX1_spells 13 = .ok (.if_icmp .eq 5, 3) := by decide +kernel
theorem dX1_spells_16 : decode cX1_spells 16 = .ok (.iconst 0, 1) := by decide +kernel
theorem dX1_spells_17 : decode cX1_spells 17 = .ok (.ireturn, 1) := by decide +kernel
theorem dX1_spells_18 : decode cX1_spells 18 = .ok (.iconst 0, 1) := by decide +kernel
theorem dX1_spells_19 : decode cX1_spells 19 = .ok (.istore_n 3, 1) := by decide +kernel
theorem dX1_spells_20 : decode cX1_spells 20 = .ok (.iload_n 3, 1) := by decide +kernel
theorem dX1_spells_21 : decode cX1_spells 21 = .ok (.aload_n 2, 1) := by decide +kernel
theorem dX1_spells_22 : decode cX1_spells 22 = .ok (.invokevirtual 89, 3) := by decide +kernel
theorem dX1_spells_25 : decode cX1_spells 25 = .ok (.if_icmp .ge 29, 3) := by decide +kernel
theorem dX1_spells_28 : decode cX1_spells 28 = .ok (.aload_n 1, 1) := by decide +kernel
theorem dX1_spells_29 : decode cX1_spells 29 = .ok (.aload_n 0, 1) := by decide +kernel
theorem dX1_spells_30 : decode cX1_spells 30 = .ok (.getfield 19, 3) := by decide +kernel
theorem dX1_spells_33 : decode cX1_spells 33 = .ok (.iload_n 3, 1) := by decide +kernel
theorem dX1_spells_34 : decode cX1_spells 34 = .ok (.iadd, 1) := by decide +kernel
theorem dX1_spells_35 : decode cX1_spells 35 = .ok (.invokevirtual 67, 3) := by decide +kernel
theorem dX1_spells_38 : decode cX1_spells 38 = .ok (.aload_n 2, 1) := by decide +kernel
theorem dX1_spells_39 : decode cX1_spells 39 = .ok (.iload_n 3, 1) := by decide +kernel
theorem dX1_spells_40 : decode cX1_spells 40 = .ok (.invokevirtual 95, 3) := by decide +kernel
theorem dX1_spells_43 : decode cX1_spells 43 = .ok (.if_icmp .eq 5, 3) := by decide +kernel
theorem dX1_spells_46 : decode cX1_spells 46 = .ok (.iconst 0, 1) := by decide +kernel
theorem dX1_spells_47 : decode cX1_spells 47 = .ok (.ireturn, 1) := by decide +kernel
theorem dX1_spells_48 : decode cX1_spells 48 = .ok (.iinc 3 1, 3) := by decide +kernel
theorem dX1_spells_51 : decode cX1_spells 51 = .ok (.goto (-31), 3) := by decide +kernel
theorem dX1_spells_54 : decode cX1_spells 54 = .ok (.iconst 1, 1) := by decide +kernel
theorem dX1_spells_55 : decode cX1_spells 55 = .ok (.ireturn, 1) := by decide +kernel
theorem dX1_advance_0 : decode cX1_advance 0 = .ok (.aload_n 0, 1) := by decide +kernel
theorem dX1_advance_1 : decode cX1_advance 1 = .ok (.aload_n 0, 1) := by decide +kernel
theorem dX1_advance_2 : decode cX1_advance 2 = .ok (.getfield 22, 3) := by decide +kernel
theorem dX1_advance_5 : decode cX1_advance 5 = .ok (.putfield 19, 3) := by decide +kernel
theorem dX1_advance_8 : decode cX1_advance 8 = .ok (.aload_n 0, 1) := by decide +kernel
theorem dX1_advance_9 : decode cX1_advance 9 = .ok (.getfield 19, 3) := by decide +kernel
theorem dX1_advance_12 : decode cX1_advance 12 = .ok (.aload_n 1, 1) := by decide +kernel
theorem dX1_advance_13 : decode cX1_advance 13 = .ok (.getfield 99, 3) := by decide +kernel
theorem dX1_advance_16 : decode cX1_advance 16 = .ok (.if_icmp .ge 30, 3) := by decide +kernel
theorem dX1_advance_19 : decode cX1_advance 19 = .ok (.aload_n 1, 1) := by decide +kernel
theorem dX1_advance_20 : decode cX1_advance 20 = .ok (.aload_n 0, 1) := by decide +kernel
theorem dX1_advance_21 : decode cX1_advance 21 = .ok (.getfield 19, 3) := by decide +kernel
theorem dX1_advance_24 : decode cX1_advance 24 = .ok (.invokevirtual 67, 3) := by decide +kernel
theorem dX1_advance_27 : decode cX1_advance 27 = .ok (.invokestatic 102, 3) := by decide +kernel
theorem dX1_advance_30 : decode cX1_advance 30 = .ok (.ifCond .eq 16, 3) := by decide +kernel
theorem dX1_advance_33 : decode cX1_advance 33 = .ok (.aload_n 0, 1) := by decide +kernel
theorem dX1_advance_34 : decode cX1_advance 34 = .ok (.dup, 1) := by decide +kernel
theorem dX1_advance_35 : decode cX1_advance 35 = .ok (.getfield 19, 3) := by decide +kernel
theorem dX1_advance_38 : decode cX1_advance 38 = .ok (.iconst 1, 1) := by decide +kernel
theorem dX1_advance_39 : decode cX1_advance 39 = .ok (.iadd, 1) := by decide +kernel
theorem dX1_advance_40 : decode cX1_advance 40 = .ok (.putfield 19, 3) := by decide +kernel
theorem dX1_advance_43 : decode cX1_advance 43 = .ok (.goto (-35), 3) := by decide +kernel
theorem dX1_advance_46 : decode cX1_advance 46 = .ok (.aload_n 1, 1) := by decide +kernel
theorem dX1_advance_47 : decode cX1_advance 47 = .ok (.aload_n 0, 1) := by decide +kernel
theorem dX1_advance_48 : decode cX1_advance 48 = .ok (.getfield 19, 3) := by decide +kernel
theorem dX1_advance_51 : decode cX1_advance 51 = .ok (.invokevirtual 67, 3) := by decide +kernel
theorem dX1_advance_54 : decode cX1_advance 54 = .ok (.istore_n 2, 1) := by decide +kernel
theorem dX1_advance_55 : decode cX1_advance 55 = .ok (.aload_n 0, 1) := by decide +kernel
theorem dX1_advance_56 : decode cX1_advance 56 = .ok (.aload_n 0, 1) := by decide +kernel
theorem dX1_advance_57 : decode cX1_advance 57 = .ok (.getfield 19, 3) := by decide +kernel
theorem dX1_advance_60 : decode cX1_advance 60 = .ok (.iconst 1, 1) := by decide +kernel
theorem dX1_advance_61 : decode cX1_advance 61 = .ok (.iadd, 1) := by decide +kernel
theorem dX1_advance_62 : decode cX1_advance 62 = .ok (.putfield 22, 3) := by decide +kernel
theorem dX1_advance_65 : decode cX1_advance 65 = .ok (.iload_n 2, 1) := by decide +kernel
theorem dX1_advance_66 : decode cX1_advance 66 = .ok (.iconst (-1), 1) := by decide +kernel
theorem dX1_advance_67 : decode cX1_advance 67 = .ok (.if_icmp .ne 19, 3) := by decide +kernel
theorem dX1_advance_70 : decode cX1_advance 70 = .ok (.aload_n 0, 1) := by decide +kernel
theorem dX1_advance_71 : decode cX1_advance 71 = .ok (.iconst 0, 1) := by decide +kernel
theorem dX1_advance_72 : decode cX1_advance 72 = .ok (.putfield 15, 3) := by decide +kernel
theorem dX1_advance_75 : decode cX1_advance 75 = .ok (.aload_n 0, 1) := by decide +kernel
theorem dX1_advance_76 : decode cX1_advance 76 = .ok (.aload_n 0, 1) := by decide +kernel
theorem dX1_advance_77 : decode cX1_advance 77 = .ok (.getfield 19, 3) := by decide +kernel
theorem dX1_advance_80 : decode cX1_advance 80 = .ok (.putfield 22, 3) := by decide +kernel
theorem dX1_advance_83 : decode cX1_advance 83 = .ok (.goto 138, 3) := by decide +kernel
theorem dX1_advance_86 : decode cX1_advance 86 = .ok (.iload_n 2, 1) := by decide +kernel
theorem dX1_advance_87 : decode cX1_advance 87 = .ok (.invokestatic 106, 3) := by decide +kernel
theorem dX1_advance_90 : decode cX1_advance 90 = .ok (.ifCond .eq 46, 3) := by decide +kernel
theorem dX1_advance_93 : decode cX1_advance 93 = .ok (.aload_n 0, 1) := by decide +kernel
theorem dX1_advance_94 : decode cX1_advance 94 = .ok (.iconst 1, 1) := by decide +kernel
theorem dX1_advance_95 : decode cX1_advance 95 = .ok (.putfield 15, 3) := by decide +kernel
theorem dX1_advance_98 : decode cX1_advance 98 = .ok (.aload_n 0, 1) := by decide +kernel
theorem dX1_advance_99 : decode cX1_advance 99 = .ok (.getfield 22, 3) := by decide +kernel
theorem dX1_advance_102 : decode cX1_advance 102 = .ok (.aload_n 1, 1) := by decide +kernel
theorem dX1_advance_103 : decode cX1_advance 103 = .ok (.getfield 99, 3) := by decide +kernel
theorem dX1_advance_106 : decode cX1_advance 106 = .ok (.if_icmp .ge 115, 3) := by decide +kernel
theorem dX1_advance_109 : decode cX1_advance 109 = .ok (.aload_n 1, 1) := by decide +kernel
theorem dX1_advance_110 : decode cX1_advance 110 = .ok (.aload_n 0, 1) := by decide +kernel
theorem dX1_advance_111 : decode cX1_advance 111 = .ok (.getfield 22, 3) := by decide +kernel
theorem dX1_advance_114 : decode cX1_advance 114 = .ok (.invokevirtual 67, 3) := by decide +kernel
theorem dX1_advance_117 : decode cX1_advance 117 = .ok (.invokestatic 106, 3) := by decide +kernel
theorem dX1_advance_120 : decode cX1_advance 120 = .ok (.ifCond .eq 101, 3) := by decide +kernel
theorem dX1_advance_123 : decode cX1_advance 123 = .ok (.aload_n 0, 1) := by decide +kernel
theorem dX1_advance_124 : decode cX1_advance 124 = .ok (.dup, 1) := by decide +kernel
theorem dX1_advance_125 : decode cX1_advance 125 = .ok (.getfield 22, 3) := by decide +kernel
theorem dX1_advance_128 : decode cX1_advance 128 = .ok (.iconst 1, 1) := by decide +kernel
theorem dX1_advance_129 : decode cX1_advance 129 = .ok (.iadd, 1) := by decide +kernel
theorem dX1_advance_130 : decode cX1_advance 130 = .ok (.putfield 22, 3) := by decide +kernel
theorem dX1_advance_133 : decode cX1_advance 133 = .ok (.goto (-35), 3) := by decide +kernel
theorem dX1_advance_136 : decode cX1_advance 136 = .ok (.iload_n 2, 1) := by decide +kernel
theorem dX1_advance_137 : decode cX1_advance 137 = .ok (.invokestatic 109, 3) := by decide +kernel
theorem dX1_advance_140 : decode cX1_advance 140 = .ok (.ifCond .eq 66, 3) := by decide +kernel
theorem dX1_advance_143 : decode cX1_advance 143 = .ok (.aload_n 0, 1) := by decide +kernel
theorem dX1_advance_144 : decode cX1_advance 144 = .ok (.getfield 22, 3) := by decide +kernel
theorem dX1_advance_147 : decode cX1_advance 147 = .ok (.aload_n 1, 1) := by decide +kernel
theorem dX1_advance_148 : decode cX1_advance 148 = .ok (.getfield 99, 3) := by decide +kernel
theorem dX1_advance_151 : decode cX1_advance 151 = .ok (.if_icmp .ge 30, 3) := by decide +kernel
theorem dX1_advance_154 : decode cX1_advance 154 = .ok (.aload_n 1, 1) := by decide +kernel
theorem dX1_advance_155 : decode cX1_advance 155 = .ok (.aload_n 0, 1) := by decide +kernel
theorem dX1_advance_156 : decode cX1_advance 156 = .ok (.getfield 22, 3) := by decide +kernel
theorem dX1_advance_159 : decode cX1_advance 159 = .ok (.invokevirtual 67, 3) := by decide +kernel
theorem dX1_advance_162 : decode cX1_advance 162 = .ok (.invokestatic 109, 3) := by decide +kernel
theorem dX1_advance_165 : decode cX1_advance 165 = .ok (.ifCond .eq 16, 3) := by decide +kernel
theorem dX1_advance_168 : decode cX1_advance 168 = .ok (.aload_n 0, 1) := by decide +kernel
theorem dX1_advance_169 : decode cX1_advance 169 = .ok (.dup, 1) := by decide +kernel
theorem dX1_advance_170 : decode cX1_advance 170 = .ok (.getfield 22, 3) := by decide +kernel
theorem dX1_advance_173 : decode cX1_advance 173 = .ok (.iconst 1, 1) := by decide +kernel
theorem dX1_advance_174 : decode cX1_advance 174 = .ok (.iadd, 1) := by decide +kernel
theorem dX1_advance_175 : decode cX1_advance 175 = .ok (.putfield 22, 3) := by decide +kernel
theorem dX1_advance_178 : decode cX1_advance 178 = .ok (.goto (-35), 3) := by decide +kernel
theorem dX1_advance_181 : decode cX1_advance 181 = .ok (.aload_n 0, 1) := by decide +kernel
theorem dX1_advance_182 : decode cX1_advance 182 = .ok (.aload_n 0, 1) := by decide +kernel
theorem dX1_advance_183 : decode cX1_advance 183 = .ok (.getfield 22, 3) := by decide +kernel
theorem dX1_advance_186 : decode cX1_advance 186 = .ok (.aload_n 0, 1) := by decide +kernel
theorem dX1_advance_187 : decode cX1_advance 187 = .ok (.getfield 19, 3) := by decide +kernel
theorem dX1_advance_190 : decode cX1_advance 190 = .ok (.isub, 1) := by decide +kernel
theorem dX1_advance_191 : decode cX1_advance 191 = .ok (.iconst 4, 1) := by decide +kernel
theorem dX1_advance_192 : decode cX1_advance 192 = .ok (.if_icmp .gt 7, 3) := by decide +kernel
theorem dX1_advance_195 : decode cX1_advance 195 = .ok (.iconst 2, 1) := by decide +kernel
theorem dX1_advance_196 : decode cX1_advance 196 = .ok (.goto 4, 3) := by decide +kernel
theorem dX1_advance_199 : decode cX1_advance 199 = .ok (.iconst 4, 1) := by decide +kernel
theorem dX1_advance_200 : decode cX1_advance 200 = .ok (.putfield 15, 3) := by decide +kernel
theorem dX1_advance_203 : decode cX1_advance 203 = .ok (.goto 18, 3) := by decide +kernel
theorem dX1_advance_206 : decode cX1_advance 206 = .ok (.aload_n 0, 1) := by decide +kernel
theorem dX1_advance_207 : decode cX1_advance 207 = .ok (.iload_n 2, 1) := by decide +kernel
theorem dX1_advance_208 : decode cX1_advance 208 = .ok (.bipush 59, 2) := by decide +kernel
theorem dX1_advance_210 : decode cX1_advance 210 = .ok (.if_icmp .ne 7, 3) := by decide +kernel
theorem dX1_advance_213 : decode cX1_advance 213 = .ok (.iconst 3, 1) := by decide +kernel
theorem dX1_advance_214 : decode cX1_advance 214 = .ok (.goto 4, 3) := by decide +kernel
theorem dX1_advance_217 : decode cX1_advance 217 = .ok (.iconst 4, 1) := by decide +kernel
theorem dX1_advance_218 : decode cX1_advance 218 = .ok (.putfield 15, 3) := by decide +kernel
theorem dX1_advance_221 : decode cX1_advance 221 = .ok (.return_, 1) := by decide +kernel
theorem dX1_isBlank_0 : decode cX1_isBlank 0 = .ok (.iload_n 0, 1) := by decide +kernel
theorem dX1_isBlank_1 : decode cX1_isBlank 1 = .ok (.bipush 32, 2) := by decide +kernel
theorem dX1_isBlank_3 : decode cX1_isBlank 3 = .ok (.if_icmp .eq 9, 3) := by decide +kernel
theorem dX1_isBlank_6 : decode cX1_isBlank 6 = .ok (.iload_n 0, 1) := by decide +kernel
theorem dX1_isBlank_7 : decode cX1_isBlank 7 = .ok (.bipush 10, 2) := by decide +kernel
theorem dX1_isBlank_9 : decode cX1_isBlank 9 = .ok (.if_icmp .ne 7, 3) := by decide +kernel
theorem dX1_isBlank_12 : decode cX1_isBlank 12 = .ok (.iconst 1, 1) := by decide +kernel
theorem dX1_isBlank_13 : decode cX1_isBlank 13 = .ok (.goto 4, 3) := by decide +kernel
theorem dX1_isBlank_16 : decode cX1_isBlank 16 = .ok (.iconst 0, 1) := by decide +kernel
theorem dX1_isBlank_17 : decode cX1_isBlank 17 = .ok (.ireturn, 1) := by decide +kernel
theorem dX1_isLetter_0 : decode cX1_isLetter 0 = .ok (.iload_n 0, 1) := by decide +kernel
theorem dX1_isLetter_1 : decode cX1_isLetter 1 = .ok (.bipush 97, 2) := by decide +kernel
theorem dX1_isLetter_3 : decode cX1_isLetter 3 = .ok (.if_icmp .lt 13, 3) := by decide +kernel
theorem dX1_isLetter_6 : decode cX1_isLetter 6 = .ok (.iload_n 0, 1) := by decide +kernel
theorem dX1_isLetter_7 : decode cX1_isLetter 7 = .ok (.bipush 122, 2) := by decide +kernel
theorem dX1_isLetter_9 : decode cX1_isLetter 9 = .ok (.if_icmp .gt 7, 3) := by decide +kernel
theorem dX1_isLetter_12 : decode cX1_isLetter 12 = .ok (.iconst 1, 1) := by decide +kernel
theorem dX1_isLetter_13 : decode cX1_isLetter 13 = .ok (.goto 4, 3) := by decide +kernel
theorem dX1_isLetter_16 : decode cX1_isLetter 16 = .ok (.iconst 0, 1) := by decide +kernel
theorem dX1_isLetter_17 : decode cX1_isLetter 17 = .ok (.ireturn, 1) := by decide +kernel
theorem dX1_isDigit_0 : decode cX1_isDigit 0 = .ok (.iload_n 0, 1) := by decide +kernel
theorem dX1_isDigit_1 : decode cX1_isDigit 1 = .ok (.bipush 48, 2) := by decide +kernel
theorem dX1_isDigit_3 : decode cX1_isDigit 3 = .ok (.if_icmp .lt 13, 3) := by decide +kernel
theorem dX1_isDigit_6 : decode cX1_isDigit 6 = .ok (.iload_n 0, 1) := by decide +kernel
theorem dX1_isDigit_7 : decode cX1_isDigit 7 = .ok (.bipush 57, 2) := by decide +kernel
theorem dX1_isDigit_9 : decode cX1_isDigit 9 = .ok (.if_icmp .gt 7, 3) := by decide +kernel
theorem dX1_isDigit_12 : decode cX1_isDigit 12 = .ok (.iconst 1, 1) := by decide +kernel
theorem dX1_isDigit_13 : decode cX1_isDigit 13 = .ok (.goto 4, 3) := by decide +kernel
theorem dX1_isDigit_16 : decode cX1_isDigit 16 = .ok (.iconst 0, 1) := by decide +kernel
theorem dX1_isDigit_17 : decode cX1_isDigit 17 = .ok (.ireturn, 1) := by decide +kernel
theorem dX2_init_0 : decode cX2_init 0 = .ok (.aload_n 0, 1) := by decide +kernel
theorem dX2_init_1 : decode cX2_init 1 = .ok (.invokespecial 3, 3) := by decide +kernel
theorem dX2_init_4 : decode cX2_init 4 = .ok (.aload_n 0, 1) := by decide +kernel
theorem dX2_init_5 : decode cX2_init 5 = .ok (.bipush 16, 2) := by decide +kernel
theorem dX2_init_7 : decode cX2_init 7 = .ok (.newarray .int, 2) := by decide +kernel
theorem dX2_init_9 : decode cX2_init 9 = .ok (.putfield 9, 3) := by decide +kernel
theorem dX2_init_12 : decode cX2_init 12 = .ok (.aload_n 0, 1) := by decide +kernel
theorem dX2_init_13 : decode cX2_init 13 = .ok (.bipush 16, 2) := by decide +kernel
theorem dX2_init_15 : decode cX2_init 15 = .ok (.newarray .int, 2) := by decide +kernel
theorem dX2_init_17 : decode cX2_init 17 = .ok (.putfield 15, 3) := by decide +kernel
theorem dX2_init_20 : decode cX2_init 20 = .ok (.aload_n 0, 1) := by decide +kernel
theorem dX2_init_21 : decode cX2_init 21 = .ok (.bipush 16, 2) := by decide +kernel
theorem dX2_init_23 : decode cX2_init 23 = .ok (.newarray .boolean, 2) := by decide +kernel
theorem dX2_init_25 : decode cX2_init 25 = .ok (.putfield 18, 3) := by decide +kernel
theorem dX2_init_28 : decode cX2_init 28 = .ok (.aload_n 0, 1) := by decide +kernel
theorem dX2_init_29 : decode cX2_init 29 = .ok (.bipush 16, 2) := by decide +kernel
theorem dX2_init_31 : decode cX2_init 31 = .ok (.newarray .int, 2) := by decide +kernel
theorem dX2_init_33 : decode cX2_init 33 = .ok (.putfield 22, 3) := by decide +kernel
theorem dX2_init_36 : decode cX2_init 36 = .ok (.aload_n 0, 1) := by decide +kernel
theorem dX2_init_37 : decode cX2_init 37 = .ok (.iconst 4, 1) := by decide +kernel
theorem dX2_init_38 : decode cX2_init 38 = .ok (.newarray .int, 2) := by decide +kernel
theorem dX2_init_40 : decode cX2_init 40 = .ok (.putfield 25, 3) := by decide +kernel
theorem dX2_init_43 : decode cX2_init 43 = .ok (.aload_n 0, 1) := by decide +kernel
theorem dX2_init_44 : decode cX2_init 44 = .ok (.new 28, 3) := by decide +kernel
theorem dX2_init_47 : decode cX2_init 47 = .ok (.dup, 1) := by decide +kernel
theorem dX2_init_48 : decode cX2_init 48 = .ok (.invokespecial 30, 3) := by decide +kernel
theorem dX2_init_51 : decode cX2_init 51 = .ok (.putfield 31, 3) := by decide +kernel
theorem dX2_init_54 : decode cX2_init 54 = .ok (.aload_n 0, 1) := by decide +kernel
theorem dX2_init_55 : decode cX2_init 55 = .ok (.invokevirtual 35, 3) := by decide +kernel
theorem dX2_init_58 : decode cX2_init 58 = .ok (.return_, 1) := by decide +kernel
theorem dX2_forget_0 : decode cX2_forget 0 = .ok (.aload_n 0, 1) := by decide +kernel
theorem dX2_forget_1 : decode cX2_forget 1 = .ok (.iconst 0, 1) := by decide +kernel
theorem dX2_forget_2 : decode cX2_forget 2 = .ok (.putfield 38, 3) := by decide +kernel
theorem dX2_forget_5 : decode cX2_forget 5 = .ok (.aload_n 0, 1) := by decide +kernel
theorem dX2_forget_6 : decode cX2_forget 6 = .ok (.iconst 0, 1) := by decide +kernel
theorem dX2_forget_7 : decode cX2_forget 7 = .ok (.putfield 42, 3) := by decide +kernel
theorem dX2_forget_10 : decode cX2_forget 10 = .ok (.aload_n 0, 1) := by decide +kernel
theorem dX2_forget_11 : decode cX2_forget 11 = .ok (.iconst (-1), 1) := by decide +kernel
theorem dX2_forget_12 : decode cX2_forget 12 = .ok (.putfield 46, 3) := by decide +kernel
theorem dX2_forget_15 : decode cX2_forget 15 = .ok (.aload_n 0, 1) := by decide +kernel
theorem dX2_forget_16 : decode cX2_forget 16 = .ok (.iconst 0, 1) := by decide +kernel
theorem dX2_forget_17 : decode cX2_forget 17 = .ok (.putfield 49, 3) := by decide +kernel
theorem dX2_forget_20 : decode cX2_forget 20 = .ok (.aload_n 0, 1) := by decide +kernel
theorem dX2_forget_21 : decode cX2_forget 21 = .ok (.iconst 0, 1) := by decide +kernel
theorem dX2_forget_22 : decode cX2_forget 22 = .ok (.putfield 52, 3) := by decide +kernel
theorem dX2_forget_25 : decode cX2_forget 25 = .ok (.aload_n 0, 1) := by decide +kernel
theorem dX2_forget_26 : decode cX2_forget 26 = .ok (.iconst 0, 1) := by decide +kernel
theorem dX2_forget_27 : decode cX2_forget 27 = .ok (.putfield 55, 3) := by decide +kernel
theorem dX2_forget_30 : decode cX2_forget 30 = .ok (.aload_n 0, 1) := by decide +kernel
theorem dX2_forget_31 : decode cX2_forget 31 = .ok (.iconst 0, 1) := by decide +kernel
theorem dX2_forget_32 : decode cX2_forget 32 = .ok (.putfield 58, 3) := by decide +kernel
theorem dX2_forget_35 : decode cX2_forget 35 = .ok (.aload_n 0, 1) := by decide +kernel
theorem dX2_forget_36 : decode cX2_forget 36 = .ok (.iconst 0, 1) := by decide +kernel
theorem dX2_forget_37 : decode cX2_forget 37 = .ok (.putfield 61, 3) := by decide +kernel
theorem dX2_forget_40 : decode cX2_forget 40 = .ok (.iconst 0, 1) := by decide +kernel
theorem dX2_forget_41 : decode cX2_forget 41 = .ok (.istore_n 1, 1) := by decide +kernel
theorem dX2_forget_42 : decode cX2_forget 42 = .ok (.iload_n 1, 1) := by decide +kernel
theorem dX2_forget_43 : decode cX2_forget 43 = .ok (.bipush 16, 2) := by decide +kernel
theorem dX2_forget_45 : decode cX2_forget 45 = .ok (.if_icmp .ge 23, 3) := by decide +kernel
theorem dX2_forget_48 : decode cX2_forget 48 = .ok (.aload_n 0, 1) := by decide +kernel
theorem dX2_forget_49 : decode cX2_forget 49 = .ok (.getfield 18, 3) := by decide +kernel
theorem dX2_forget_52 : decode cX2_forget 52 = .ok (.iload_n 1, 1) := by decide +kernel
theorem dX2_forget_53 : decode cX2_forget 53 = .ok (.iconst 0, 1) := by decide +kernel
theorem dX2_forget_54 : decode cX2_forget 54 = .ok (.bastore, 1) := by decide +kernel
theorem dX2_forget_55 : decode cX2_forget 55 = .ok (.aload_n 0, 1) := by decide +kernel
theorem dX2_forget_56 : decode cX2_forget 56 = .ok (.getfield 22, 3) := by decide +kernel
theorem dX2_forget_59 : decode cX2_forget 59 = .ok (.iload_n 1, 1) := by decide +kernel
theorem dX2_forget_60 : decode cX2_forget 60 = .ok (.iconst (-1), 1) := by decide +kernel
theorem dX2_forget_61 : decode cX2_forget 61 = .ok (.iastore, 1) := by decide +kernel
theorem dX2_forget_62 : decode cX2_forget 62 = .ok (.iinc 1 1, 3) := by decide +kernel
theorem dX2_forget_65 : decode cX2_forget 65 = .ok (.goto (-23), 3) := by decide +kernel
theorem dX2_forget_68 : decode cX2_forget 68 = .ok (.iconst 0, 1) := by decide +kernel
theorem dX2_forget_69 : decode cX2_forget 69 = .ok (.istore_n 1, 1) := by decide +kernel
theorem dX2_forget_70 : decode cX2_forget 70 = .ok (.iload_n 1, 1) := by decide +kernel
theorem dX2_forget_71 : decode cX2_forget 71 = .ok (.iconst 4, 1) := by decide +kernel
theorem dX2_forget_72 : decode cX2_forget 72 = .ok (.if_icmp .ge 16, 3) := by decide +kernel
theorem dX2_forget_75 : decode cX2_forget 75 = .ok (.aload_n 0, 1) := by decide +kernel
theorem dX2_forget_76 : decode cX2_forget 76 = .ok (.getfield 25, 3) := by decide +kernel
theorem dX2_forget_79 : decode cX2_forget 79 = .ok (.iload_n 1, 1) := by decide +kernel
theorem dX2_forget_80 : decode cX2_forget 80 = .ok (.iconst (-1), 1) := by decide +kernel
theorem dX2_forget_81 : decode cX2_forget 81 = .ok (.iastore, 1) := by decide +kernel
theorem dX2_forget_82 : decode cX2_forget 82 = .ok (.iinc 1 1, 3) := by decide +kernel
theorem dX2_forget_85 : decode cX2_forget 85 = .ok (.goto (-15), 3) := by decide +kernel
theorem dX2_forget_88 : decode cX2_forget 88 = .ok (.aload_n 0, 1) := by decide +kernel
theorem dX2_forget_89 : decode cX2_forget 89 = .ok (.getfield 31, 3) := by decide +kernel
theorem dX2_forget_92 : decode cX2_forget 92 = .ok (.invokevirtual 64, 3) := by decide +kernel
theorem dX2_forget_95 : decode cX2_forget 95 = .ok (.return_, 1) := by decide +kernel
theorem dX2_enter_0 : decode cX2_enter 0 = .ok (.aload_n 0, 1) := by decide +kernel
theorem dX2_enter_1 : decode cX2_enter 1 = .ok (.iload_n 1, 1) := by decide +kernel
theorem dX2_enter_2 : decode cX2_enter 2 = .ok (.putfield 61, 3) := by decide +kernel
theorem dX2_enter_5 : decode cX2_enter 5 = .ok (.iconst 0, 1) := by decide +kernel
theorem dX2_enter_6 : decode cX2_enter 6 = .ok (.istore_n 2, 1) := by decide +kernel
theorem dX2_enter_7 : decode cX2_enter 7 = .ok (.iload_n 2, 1) := by decide +kernel
theorem dX2_enter_8 : decode cX2_enter 8 = .ok (.iload_n 1, 1) := by decide +kernel
theorem dX2_enter_9 : decode cX2_enter 9 = .ok (.if_icmp .ge 21, 3) := by decide +kernel
theorem dX2_enter_12 : decode cX2_enter 12 = .ok (.aload_n 0, 1) := by decide +kernel
theorem dX2_enter_13 : decode cX2_enter 13 = .ok (.getfield 18, 3) := by decide +kernel
theorem dX2_enter_16 : decode cX2_enter 16 = .ok (.aload_n 0, 1) := by decide +kernel
theorem dX2_enter_17 : decode cX2_enter 17 = .ok (.getfield 15, 3) := by decide +kernel
theorem dX2_enter_20 : decode cX2_enter 20 = .ok (.iload_n 2, 1) := by decide +kernel
theorem dX2_enter_21 : decode cX2_enter 21 = .ok (.iaload, 1) := by decide +kernel
theorem dX2_enter_22 : decode cX2_enter 22 = .ok (.iconst 1, 1) := by decide +kernel
theorem dX2_enter_23 : decode cX2_enter 23 = .ok (.bastore, 1) := by decide +kernel
theorem dX2_enter_24 : decode cX2_enter 24 = .ok (.iinc 2 1, 3) := by decide +kernel
theorem dX2_enter_27 : decode cX2_enter 27 = .ok (.goto (-20), 3) := by decide +kernel
theorem dX2_enter_30 : decode cX2_enter 30 = .ok (.return_, 1) := by decide +kernel
theorem dX2_drawOrder_0 : decode cX2_drawOrder 0 = .ok (.iload_n 1, 1) := by decide +kernel
theorem dX2_drawOrder_1 : decode cX2_drawOrder 1 = .ok (.istore_n 3, 1) := by decide +kernel
theorem dX2_drawOrder_2 : decode cX2_drawOrder 2 = .ok (.aload_n 0, 1) := by decide +kernel
theorem dX2_drawOrder_3 : decode cX2_drawOrder 3 = .ok (.iconst 0, 1) := by decide +kernel
theorem dX2_drawOrder_4 : decode cX2_drawOrder 4 = .ok (.putfield 49, 3) := by decide +kernel
theorem dX2_drawOrder_7 : decode cX2_drawOrder 7 = .ok (.iload_n 2, 1) := by decide +kernel
theorem dX2_drawOrder_8 : decode cX2_drawOrder 8 = .ok (.istore 4, 2) := by decide +kernel
theorem dX2_drawOrder_10 : decode cX2_drawOrder 10 = .ok (.iload 4, 2) := by decide +kernel
theorem dX2_drawOrder_12 : decode cX2_drawOrder 12 = .ok (.ifCond .le 86, 3) := by decide +kernel
theorem dX2_drawOrder_15 : decode cX2_drawOrder 15 = .ok (.aload_n 0, 1) := by decide +kernel
theorem dX2_drawOrder_16 : decode cX2_drawOrder 16 = .ok (.getfield 49, 3) := by decide +kernel
theorem dX2_drawOrder_19 : decode cX2_drawOrder 19 = .ok (.bipush 16, 2) := by decide +kernel
theorem dX2_drawOrder_21 : decode cX2_drawOrder 21 = .ok (.if_icmp .ge 77, 3) := by decide +kernel
theorem dX2_drawOrder_24 : decode cX2_drawOrder 24 = .ok (.iload_n 3, 1) := by decide +kernel
theorem dX2_drawOrder_25 : decode cX2_drawOrder 25 = .ok (.ldc 67, 2) := by decide +kernel
theorem dX2_drawOrder_27 : decode cX2_drawOrder 27 = .ok (.imul, 1) := by decide +kernel
theorem dX2_drawOrder_28 : decode cX2_drawOrder 28 = .ok (.sipush 12345, 3) := by decide +kernel
theorem dX2_drawOrder_31 : decode cX2_drawOrder 31 = .ok (.iadd, 1) := by decide +kernel
theorem dX2_drawOrder_32 : decode cX2_drawOrder 32 = .ok (.istore_n 3, 1) := by decide +kernel
theorem dX2_drawOrder_33 : decode cX2_drawOrder 33 = .ok (.iload_n 3, 1) := by decide +kernel
theorem dX2_drawOrder_34 : decode cX2_drawOrder 34 = .ok (.bipush 16, 2) := by decide +kernel
theorem dX2_drawOrder_36 : decode cX2_drawOrder 36 = .ok (.iushr, 1) := by decide +kernel
theorem dX2_drawOrder_37 : decode cX2_drawOrder 37 = .ok (.iload 4, 2) := by decide +kernel
theorem dX2_drawOrder_39 : decode cX2_drawOrder 39 = .ok (.irem, 1) := by decide +kernel
theorem dX2_drawOrder_40 : decode cX2_drawOrder 40 = .ok (.istore 5, 2) := by decide +kernel
theorem dX2_drawOrder_42 : decode cX2_drawOrder 42 = .ok (.aload_n 0, 1) := by decide +kernel
theorem dX2_drawOrder_43 : decode cX2_drawOrder 43 = .ok (.getfield 9, 3) := by decide +kernel
theorem dX2_drawOrder_46 : decode cX2_drawOrder 46 = .ok (.aload_n 0, 1) := by decide +kernel
theorem dX2_drawOrder_47 : decode cX2_drawOrder 47 = .ok (.getfield 49, 3) := by decide +kernel
theorem dX2_drawOrder_50 : decode cX2_drawOrder 50 = .ok (.aload_n 0, 1) := by decide +kernel
theorem dX2_drawOrder_51 : decode cX2_drawOrder 51 = .ok (.getfield 15, 3) := by decide +kernel
theorem dX2_drawOrder_54 : decode cX2_drawOrder 54 = .ok (.iload 5, 2) := by decide +kernel
theorem dX2_drawOrder_56 : decode cX2_drawOrder 56 = .ok (.iaload, 1) := by decide +kernel
theorem dX2_drawOrder_57 : decode cX2_drawOrder 57 = .ok (.iastore, 1) := by decide +kernel
theorem dX2_drawOrder_58 : decode cX2_drawOrder 58 = .ok (.aload_n 0, 1) := by decide +kernel
theorem dX2_drawOrder_59 : decode cX2_drawOrder 59 = .ok (.dup, 1) := by decide +kernel
theorem dX2_drawOrder_60 : decode cX2_drawOrder 60 = .ok (.getfield 49, 3) := by decide +kernel
theorem dX2_drawOrder_63 : decode cX2_drawOrder 63 = .ok (.iconst 1, 1) := by decide +kernel
theorem dX2_drawOrder_64 : decode cX2_drawOrder 64 = .ok (.iadd, 1) := by decide +kernel
theorem dX2_drawOrder_65 : decode cX2_drawOrder 65 = .ok (.putfield 49, 3) := by decide +kernel
theorem dX2_drawOrder_68 : decode cX2_drawOrder 68 = .ok (.aload_n 0, 1) := by decide +kernel
theorem dX2_drawOrder_69 : decode cX2_drawOrder 69 = .ok (.getfield 15, 3) := by decide +kernel
theorem dX2_drawOrder_72 : decode cX2_drawOrder 72 = .ok (.iload 5, 2) := by decide +kernel
theorem dX2_drawOrder_74 : decode cX2_drawOrder 74 = .ok (.iconst 1, 1) := by decide +kernel
theorem dX2_drawOrder_75 : decode cX2_drawOrder 75 = .ok (.iadd, 1) := by decide +kernel
theorem dX2_drawOrder_76 : decode cX2_drawOrder 76 = .ok (.aload_n 0, 1) := by decide +kernel
theorem dX2_drawOrder_77 : decode cX2_drawOrder 77 = .ok (.getfield 15, 3) := by decide +kernel
theorem dX2_drawOrder_80 : decode cX2_drawOrder 80 = .ok (.iload 5, 2) := by decide +kernel
theorem dX2_drawOrder_82 : decode cX2_drawOrder 82 = .ok (.iload 4, 2) := by decide +kernel
theorem dX2_drawOrder_84 : decode cX2_drawOrder 84 = .ok (.iload 5, 2) := by decide +kernel
theorem dX2_drawOrder_86 : decode cX2_drawOrder 86 = .ok (.isub, 1) := by decide +kernel
theorem dX2_drawOrder_87 : decode cX2_drawOrder 87 = .ok (.iconst 1, 1) := by decide +kernel
theorem dX2_drawOrder_88 : decode cX2_drawOrder 88 = .ok (.isub, 1) := by decide +kernel
theorem dX2_drawOrder_89 : decode cX2_drawOrder 89 = .ok (.invokestatic 68, 3) := by decide +kernel
theorem dX2_drawOrder_92 : decode cX2_drawOrder 92 = .ok (.iinc 4 (-1), 3) := by decide +kernel
theorem dX2_drawOrder_95 : decode cX2_drawOrder 95 = .ok (.goto (-85), 3) := by decide +kernel
theorem dX2_drawOrder_98 : decode cX2_drawOrder 98 = .ok (.return_, 1) := by decide +kernel
theorem dX2_turnOrder_0 : decode cX2_turnOrder 0 = .ok (.aload_n 0, 1) := by decide +kernel
theorem dX2_turnOrder_1 : decode cX2_turnOrder 1 = .ok (.iload_n 1, 1) := by decide +kernel
theorem dX2_turnOrder_2 : decode cX2_turnOrder 2 = .ok (.putfield 49, 3) := by decide +kernel
theorem dX2_turnOrder_5 : decode cX2_turnOrder 5 = .ok (.iload_n 1, 1) := by decide +kernel
theorem dX2_turnOrder_6 : decode cX2_turnOrder 6 = .ok (.iload_n 2, 1) := by decide +kernel
theorem dX2_turnOrder_7 : decode cX2_turnOrder 7 = .ok (.invokestatic 74, 3) := by decide +kernel
theorem dX2_turnOrder_10 : decode cX2_turnOrder 10 = .ok (.istore_n 3, 1) := by decide +kernel
theorem dX2_turnOrder_11 : decode cX2_turnOrder 11 = .ok (.iconst 0, 1) := by decide +kernel
theorem dX2_turnOrder_12 : decode cX2_turnOrder 12 = .ok (.istore 4, 2) := by decide +kernel
theorem dX2_turnOrder_14 : decode cX2_turnOrder 14 = .ok (.iload 4, 2) := by decide +kernel
theorem dX2_turnOrder_16 : decode cX2_turnOrder 16 = .ok (.iload_n 1, 1) := by decide +kernel
theorem dX2_turnOrder_17 : decode cX2_turnOrder 17 = .ok (.if_icmp .ge 43, 3) := by decide +kernel
theorem dX2_turnOrder_20 : decode cX2_turnOrder 20 = .ok (.aload_n 0, 1) := by decide +kernel
theorem dX2_turnOrder_21 : decode cX2_turnOrder 21 = .ok (.getfield 9, 3) := by decide +kernel
theorem dX2_turnOrder_24 : decode cX2_turnOrder 24 = .ok (.iload 4, 2) := by decide +kernel
theorem dX2_turnOrder_26 : decode cX2_turnOrder 26 = .ok (.iload 4, 2) := by decide +kernel
theorem dX2_turnOrder_28 : decode cX2_turnOrder 28 = .ok (.iload_n 3, 1) := by decide +kernel
theorem dX2_turnOrder_29 : decode cX2_turnOrder 29 = .ok (.if_icmp .ge 17, 3) := by decide +kernel
theorem dX2_turnOrder_32 : decode cX2_turnOrder 32 = .ok (.aload_n 0, 1) := by decide +kernel
theorem dX2_turnOrder_33 : decode cX2_turnOrder 33 = .ok (.getfield 15, 3) := by decide +kernel
theorem dX2_turnOrder_36 : decode cX2_turnOrder 36 = .ok (.iload_n 3, 1) := by decide +kernel
theorem dX2_turnOrder_37 : decode cX2_turnOrder 37 = .ok (.iconst 1, 1) := by decide +kernel
theorem dX2_turnOrder_38 : decode cX2_turnOrder 38 = .ok (.isub, 1) := by decide +kernel
theorem dX2_turnOrder_39 : decode cX2_turnOrder 39 = .ok (.iload 4, 2) := by decide +kernel
theorem dX2_turnOrder_41 : decode cX2_turnOrder 41 = .ok (.isub, 1) := by decide +kernel
theorem dX2_turnOrder_42 : decode cX2_turnOrder 42 = .ok (.iaload, 1) := by decide +kernel
theorem dX2_turnOrder_43 : decode cX2_turnOrder 43 = .ok (.goto 10, 3) := by decide +kernel
theorem dX2_turnOrder_46 : decode cX2_turnOrder 46 = .ok (.aload_n 0, 1) := by decide +kernel
theorem dX2_turnOrder_47 : decode cX2_turnOrder 47 = .ok (.getfield 15, 3) := by decide +kernel
theorem dX2_turnOrder_50 : decode cX2_turnOrder 50 = .ok (.iload 4, 2) := by decide +kernel
theorem dX2_turnOrder_52 : decode cX2_turnOrder 52 = .ok (.iaload, 1) := by decide +kernel
theorem dX2_turnOrder_53 : decode cX2_turnOrder 53 = .ok (.iastore, 1) := by decide +kernel
theorem dX2_turnOrder_54 : decode cX2_turnOrder 54 = .ok (.iinc 4 1, 3) := by decide +kernel
theorem dX2_turnOrder_57 : decode cX2_turnOrder 57 = .ok (.goto (-43), 3) := by decide +kernel
theorem dX2_turnOrder_60 : decode cX2_turnOrder 60 = .ok (.return_, 1) := by decide +kernel
theorem dX2_beginRun_0 : decode cX2_beginRun 0 = .ok (.aload_n 0, 1) := by decide +kernel
theorem dX2_beginRun_1 : decode cX2_beginRun 1 = .ok (.aload_n 0, 1) := by decide +kernel
theorem dX2_beginRun_2 : decode cX2_beginRun 2 = .ok (.getfield 42, 3) := by decide +kernel
theorem dX2_beginRun_5 : decode cX2_beginRun 5 = .ok (.putfield 46, 3) := by decide +kernel
theorem dX2_beginRun_8 : decode cX2_beginRun 8 = .ok (.aload_n 0, 1) := by decide +kernel
theorem dX2_beginRun_9 : decode cX2_beginRun 9 = .ok (.dup, 1) := by decide +kernel
theorem dX2_beginRun_10 : decode cX2_beginRun 10 = .ok (.getfield 42, 3) := by decide +kernel
theorem dX2_beginRun_13 : decode cX2_beginRun 13 = .ok (.iconst 1, 1) := by decide +kernel
theorem dX2_beginRun_14 : decode cX2_beginRun 14 = .ok (.iadd, 1) := by decide +kernel
theorem dX2_beginRun_15 : decode cX2_beginRun 15 = .ok (.putfield 42, 3) := by decide +kernel
theorem dX2_beginRun_18 : decode cX2_beginRun 18 = .ok (.aload_n 0, 1) := by decide +kernel
theorem dX2_beginRun_19 : decode cX2_beginRun 19 = .ok (.iconst 0, 1) := by decide +kernel
theorem dX2_beginRun_20 : decode cX2_beginRun 20 = .ok (.putfield 52, 3) := by decide +kernel
theorem dX2_beginRun_23 : decode cX2_beginRun 23 = .ok (.aload_n 0, 1) := by decide +kernel
theorem dX2_beginRun_24 : decode cX2_beginRun 24 = .ok (.getfield 46, 3) := by decide +kernel
theorem dX2_beginRun_27 : decode cX2_beginRun 27 = .ok (.ireturn, 1) := by decide +kernel
theorem dX2_orderAt_0 : decode cX2_orderAt 0 = .ok (.iload_n 1, 1) := by decide +kernel
theorem dX2_orderAt_1 : decode cX2_orderAt 1 = .ok (.iconst 0, 1) := by decide +kernel
theorem dX2_orderAt_2 : decode cX2_orderAt 2 = .ok (.aload_n 0, 1) := by decide +kernel
theorem dX2_orderAt_3 : decode cX2_orderAt 3 = .ok (.getfield 49, 3) := by decide +kernel
theorem dX2_orderAt_6 : decode cX2_orderAt 6 = .ok (.iconst 1, 1) := by decide +kernel
theorem dX2_orderAt_7 : decode cX2_orderAt 7 = .ok (.isub, 1) := by decide +kernel
theorem dX2_orderAt_8 : decode cX2_orderAt 8 = .ok (.invokestatic 80, 3) := by decide +kernel
theorem dX2_orderAt_11 : decode cX2_orderAt 11 = .ok (.ifCond .eq 12, 3) := by decide +kernel
theorem dX2_orderAt_14 : decode cX2_orderAt 14 = .ok (.aload_n 0, 1) := by decide +kernel
theorem dX2_orderAt_15 : decode cX2_orderAt 15 = .ok (.getfield 9, 3) := by decide +kernel
theorem dX2_orderAt_18 : decode cX2_orderAt 18 = .ok (.iload_n 1, 1) := by decide +kernel
theorem dX2_orderAt_19 : decode cX2_orderAt 19 = .ok (.iaload, 1) := by decide +kernel
theorem dX2_orderAt_20 : decode cX2_orderAt 20 = .ok (.goto 4, 3) := by decide +kernel
theorem dX2_orderAt_23 : decode cX2_orderAt 23 = .ok (.iconst (-1), 1) := by decide +kernel
theorem dX2_orderAt_24 : decode cX2_orderAt 24 = .ok (.ireturn, 1) := by decide +kernel
theorem dX2_nextSled_0 : decode cX2_nextSled 0 = .ok (.aload_n 0, 1) := by decide +kernel
theorem dX2_nextSled_1 : decode cX2_nextSled 1 = .ok (.getfield 46, 3) := by decide +kernel
theorem dX2_nextSled_4 : decode cX2_nextSled 4 = .ok (.iconst (-1), 1) := by decide +kernel
theorem dX2_nextSled_5 : decode cX2_nextSled 5 = .ok (.if_icmp .ne 7, 3) := by decide +kernel
theorem dX2_nextSled_8 : decode cX2_nextSled 8 = .ok (.iconst (-1), 1) := by decide +kernel
theorem dX2_nextSled_9 : decode cX2_nextSled 9 = .ok (.goto 11, 3) := by decide +kernel
theorem dX2_nextSled_12 : decode cX2_nextSled 12 = .ok (.aload_n 0, 1) := by decide +kernel
theorem dX2_nextSled_13 : decode cX2_nextSled 13 = .ok (.aload_n 0, 1) := by decide +kernel
theorem dX2_nextSled_14 : decode cX2_nextSled 14 = .ok (.getfield 52, 3) := by decide +kernel
theorem dX2_nextSled_17 : decode cX2_nextSled 17 = .ok (.invokevirtual 84, 3) := by decide +kernel
theorem dX2_nextSled_20 : decode cX2_nextSled 20 = .ok (.ireturn, 1) := by decide +kernel
theorem dX2_countDown_0 : decode cX2_countDown 0 = .ok (.aload_n 0, 1) := by decide +kernel
theorem dX2_countDown_1 : decode cX2_countDown 1 = .ok (.dup, 1) := by decide +kernel
theorem dX2_countDown_2 : decode cX2_countDown 2 = .ok (.getfield 52, 3) := by decide +kernel
theorem dX2_countDown_5 : decode cX2_countDown 5 = .ok (.iconst 1, 1) := by decide +kernel
theorem dX2_countDown_6 : decode cX2_countDown 6 = .ok (.iadd, 1) := by decide +kernel
theorem dX2_countDown_7 : decode cX2_countDown 7 = .ok (.putfield 52, 3) := by decide +kernel
theorem dX2_countDown_10 : decode cX2_countDown 10 = .ok (.aload_n 0, 1) := by decide +kernel
theorem dX2_countDown_11 : decode cX2_countDown 11 = .ok (.getfield 52, 3) := by decide +kernel
theorem dX2_countDown_14 : decode cX2_countDown 14 = .ok (.aload_n 0, 1) := by decide +kernel
theorem dX2_countDown_15 : decode cX2_countDown 15 = .ok (.getfield 49, 3) := by decide +kernel
theorem dX2_countDown_18 : decode cX2_countDown 18 = .ok (.if_icmp .lt 53, 3) := by decide +kernel
theorem dX2_countDown_21 : decode cX2_countDown 21 = .ok (.aload_n 0, 1) := by decide +kernel
theorem dX2_countDown_22 : decode cX2_countDown 22 = .ok (.getfield 46, 3) := by decide +kernel
theorem dX2_countDown_25 : decode cX2_countDown 25 = .ok (.iconst 0, 1) := by decide +kernel
theorem dX2_countDown_26 : decode cX2_countDown 26 = .ok (.iconst 3, 1) := by decide +kernel
theorem dX2_countDown_27 : decode cX2_countDown 27 = .ok (.invokestatic 80, 3) := by decide +kernel
theorem dX2_countDown_30 : decode cX2_countDown 30 = .ok (.ifCond .eq 41, 3) := by decide +kernel
theorem dX2_countDown_33 : decode cX2_countDown 33 = .ok (.aload_n 0, 1) := by decide +kernel
theorem dX2_countDown_34 : decode cX2_countDown 34 = .ok (.getfield 25, 3) := by decide +kernel
theorem dX2_countDown_37 : decode cX2_countDown 37 = .ok (.aload_n 0, 1) := by decide +kernel
theorem dX2_countDown_38 : decode cX2_countDown 38 = .ok (.getfield 46, 3) := by decide +kernel
theorem dX2_countDown_41 : decode cX2_countDown 41 = .ok (.aload_n 0, 1) := by decide +kernel
theorem dX2_countDown_42 : decode cX2_countDown 42 = .ok (.getfield 55, 3) := by decide +kernel
theorem dX2_countDown_45 : decode cX2_countDown 45 = .ok (.iastore, 1) := by decide +kernel
theorem dX2_countDown_46 : decode cX2_countDown 46 = .ok (.aload_n 0, 1) := by decide +kernel
theorem dX2_countDown_47 : decode cX2_countDown 47 = .ok (.dup, 1) := by decide +kernel
theorem dX2_countDown_48 : decode cX2_countDown 48 = .ok (.getfield 55, 3) := by decide +kernel
theorem dX2_countDown_51 : decode cX2_countDown 51 = .ok (.iconst 1, 1) := by decide +kernel
theorem dX2_countDown_52 : decode cX2_countDown 52 = .ok (.iadd, 1) := by decide +kernel
theorem dX2_countDown_53 : decode cX2_countDown 53 = .ok (.putfield 55, 3) := by decide +kernel
theorem dX2_countDown_56 : decode cX2_countDown 56 = .ok (.aload_n 0, 1) := by decide +kernel
theorem dX2_countDown_57 : decode cX2_countDown 57 = .ok (.dup, 1) := by decide +kernel
theorem dX2_countDown_58 : decode cX2_countDown 58 = .ok (.getfield 58, 3) := by decide +kernel
theorem dX2_countDown_61 : decode cX2_countDown 61 = .ok (.iconst 1, 1) := by decide +kernel
theorem dX2_countDown_62 : decode cX2_countDown 62 = .ok (.iadd, 1) := by decide +kernel
theorem dX2_countDown_63 : decode cX2_countDown 63 = .ok (.putfield 58, 3) := by decide +kernel
theorem dX2_countDown_66 : decode cX2_countDown 66 = .ok (.aload_n 0, 1) := by decide +kernel
theorem dX2_countDown_67 : decode cX2_countDown 67 = .ok (.iconst (-1), 1) := by decide +kernel
theorem dX2_countDown_68 : decode cX2_countDown 68 = .ok (.putfield 46, 3) := by decide +kernel
theorem dX2_countDown_71 : decode cX2_countDown 71 = .ok (.return_, 1) := by decide +kernel
theorem dX2_shutRun_0 : decode cX2_shutRun 0 = .ok (.aload_n 0, 1) := by decide +kernel
theorem dX2_shutRun_1 : decode cX2_shutRun 1 = .ok (.iconst (-1), 1) := by decide +kernel
theorem dX2_shutRun_2 : decode cX2_shutRun 2 = .ok (.putfield 46, 3) := by decide +kernel
theorem dX2_shutRun_5 : decode cX2_shutRun 5 = .ok (.aload_n 0, 1) := by decide +kernel
theorem dX2_shutRun_6 : decode cX2_shutRun 6 = .ok (.getfield 52, 3) := by decide +kernel
theorem dX2_shutRun_9 : decode cX2_shutRun 9 = .ok (.ireturn, 1) := by decide +kernel
theorem dX2_hasEntered_0 : decode cX2_hasEntered 0 = .ok (.iload_n 1, 1) := by decide +kernel
theorem dX2_hasEntered_1 : decode cX2_hasEntered 1 = .ok (.iconst 0, 1) := by decide +kernel
theorem dX2_hasEntered_2 : decode cX2_hasEntered 2 = .ok (.bipush 15, 2) := by decide +kernel
theorem dX2_hasEntered_4 : decode cX2_hasEntered 4 = .ok (.invokestatic 80, 3) := by decide +kernel
theorem dX2_hasEntered_7 : decode cX2_hasEntered 7 = .ok (.ifCond .eq 16, 3) := by decide +kernel
theorem dX2_hasEntered_10 : decode cX2_hasEntered 10 = .ok (.aload_n 0, 1) := by decide +kernel
theorem dX2_hasEntered_11 : decode cX2_hasEntered 11 = .ok (.getfield 18, 3) := by decide +kernel
theorem dX2_hasEntered_14 : decode cX2_hasEntered 14 = .ok (.iload_n 1, 1) := by decide +kernel
theorem dX2_hasEntered_15 : decode cX2_hasEntered 15 = .ok (.baload, 1) := by decide +kernel
theorem dX2_hasEntered_16 : decode cX2_hasEntered 16 = .ok (.ifCond .eq 7, 3) := by decide +kernel
theorem dX2_hasEntered_19 : decode cX2_hasEntered 19 = .ok (.iconst 1, 1) := by decide +kernel
theorem dX2_hasEntered_20 : decode cX2_hasEntered 20 = .ok (.goto 4, 3) := by decide +kernel
theorem dX2_hasEntered_23 : decode cX2_hasEntered 23 = .ok (.iconst 0, 1) := by decide +kernel
theorem dX2_hasEntered_24 : decode cX2_hasEntered 24 = .ok (.ireturn, 1) := by decide +kernel
theorem dX2_strike_0 : decode cX2_strike 0 = .ok (.aload_n 0, 1) := by decide +kernel
theorem dX2_strike_1 : decode cX2_strike 1 = .ok (.iload_n 1, 1) := by decide +kernel
theorem dX2_strike_2 : decode cX2_strike 2 = .ok (.invokevirtual 88, 3) := by decide +kernel
theorem dX2_strike_5 : decode cX2_strike 5 = .ok (.ifCond .eq 13, 3) := by decide +kernel
theorem dX2_strike_8 : decode cX2_strike 8 = .ok (.aload_n 0, 1) := by decide +kernel
theorem dX2_strike_9 : decode cX2_strike 9 = .ok (.getfield 22, 3) := by decide +kernel
theorem dX2_strike_12 : decode cX2_strike 12 = .ok (.iload_n 1, 1) := by decide +kernel
theorem dX2_strike_13 : decode cX2_strike 13 = .ok (.iaload, 1) := by decide +kernel
theorem dX2_strike_14 : decode cX2_strike 14 = .ok (.iconst (-1), 1) := by decide +kernel
theorem dX2_strike_15 : decode cX2_strike 15 = .ok (.if_icmp .eq 5, 3) := by decide +kernel
theorem dX2_strike_18 : decode cX2_strike 18 = .ok (.iconst 0, 1) := by decide +kernel
theorem dX2_strike_19 : decode cX2_strike 19 = .ok (.ireturn, 1) := by decide +kernel
theorem dX2_strike_20 : decode cX2_strike 20 = .ok (.aload_n 0, 1) := by decide +kernel
theorem dX2_strike_21 : decode cX2_strike 21 = .ok (.getfield 22, 3) := by decide +kernel
theorem dX2_strike_24 : decode cX2_strike 24 = .ok (.iload_n 1, 1) := by decide +kernel
theorem dX2_strike_25 : decode cX2_strike 25 = .ok (.aload_n 0, 1) := by decide +kernel
theorem dX2_strike_26 : decode cX2_strike 26 = .ok (.getfield 55, 3) := by decide +kernel
theorem dX2_strike_29 : decode cX2_strike 29 = .ok (.iastore, 1) := by decide +kernel
theorem dX2_strike_30 : decode cX2_strike 30 = .ok (.aload_n 0, 1) := by decide +kernel
theorem dX2_strike_31 : decode cX2_strike 31 = .ok (.dup, 1) := by decide +kernel
theorem dX2_strike_32 : decode cX2_strike 32 = .ok (.getfield 55, 3) := by decide +kernel
theorem dX2_strike_35 : decode cX2_strike 35 = .ok (.iconst 1, 1) := by decide +kernel
theorem dX2_strike_36 : decode cX2_strike 36 = .ok (.iadd, 1) := by decide +kernel
theorem dX2_strike_37 : decode cX2_strike 37 = .ok (.putfield 55, 3) := by decide +kernel
theorem dX2_strike_40 : decode cX2_strike 40 = .ok (.iconst 1, 1) := by decide +kernel
theorem dX2_strike_41 : decode cX2_strike 41 = .ok (.ireturn, 1) := by decide +kernel
theorem dX2_isWhole_0 : decode cX2_isWhole 0 = .ok (.aload_n 0, 1) := by decide +kernel
theorem dX2_isWhole_1 : decode cX2_isWhole 1 = .ok (.iload_n 1, 1) := by decide +kernel
theorem dX2_isWhole_2 : decode cX2_isWhole 2 = .ok (.aload_n 0, 1) := by decide +kernel
theorem dX2_isWhole_3 : decode cX2_isWhole 3 = .ok (.getfield 55, 3) := by decide +kernel
theorem dX2_isWhole_6 : decode cX2_isWhole 6 = .ok (.invokevirtual 92, 3) := by decide +kernel
theorem dX2_isWhole_9 : decode cX2_isWhole 9 = .ok (.ireturn, 1) := by decide +kernel
theorem dX2_isWholeBy_0 : decode cX2_isWholeBy 0 = .ok (.iload_n 1, 1) := by decide +kernel
theorem dX2_isWholeBy_1 : decode cX2_isWholeBy 1 = .ok (.iconst 0, 1) := by decide +kernel
theorem dX2_isWholeBy_2 : decode cX2_isWholeBy 2 = .ok (.iconst 3, 1) := by decide +kernel
theorem dX2_isWholeBy_3 : decode cX2_isWholeBy 3 = .ok (.invokestatic 80, 3) := by decide +kernel
theorem dX2_isWholeBy_6 : decode cX2_isWholeBy 6 = .ok (.ifCond .eq 27, 3) := by decide +kernel
theorem dX2_isWholeBy_9 : decode cX2_isWholeBy 9 = .ok (.aload_n 0, 1) := by decide +kernel
theorem dX2_isWholeBy_10 : decode cX2_isWholeBy 10 = .ok (.getfield 25, 3) := by decide +kernel
theorem dX2_isWholeBy_13 : decode cX2_isWholeBy 13 = .ok (.iload_n 1, 1) := by decide +kernel
theorem dX2_isWholeBy_14 : decode cX2_isWholeBy 14 = .ok (.iaload, 1) := by decide +kernel
theorem dX2_isWholeBy_15 : decode cX2_isWholeBy 15 = .ok (.iconst (-1), 1) := by decide +kernel
theorem dX2_isWholeBy_16 : decode cX2_isWholeBy 16 = .ok (.if_icmp .eq 17, 3) := by decide +kernel
theorem dX2_isWholeBy_19 : decode cX2_isWholeBy 19 = .ok (.aload_n 0, 1) := by decide +kernel
theorem dX2_isWholeBy_20 : decode cX2_isWholeBy 20 = .ok (.getfield 25, 3) := by decide +kernel
theorem dX2_isWholeBy_23 : decode cX2_isWholeBy 23 = .ok (.iload_n 1, 1) := by decide +kernel
theorem dX2_isWholeBy_24 : decode cX2_isWholeBy 24 = .ok (.iaload, 1) := by decide +kernel
theorem dX2_isWholeBy_25 : decode cX2_isWholeBy 25 = .ok (.iload_n 2, 1) := by decide +kernel
theorem dX2_isWholeBy_26 : decode cX2_isWholeBy 26 = .ok (.if_icmp .ge 7, 3) := by decide +kernel
theorem dX2_isWholeBy_29 : decode cX2_isWholeBy 29 = .ok (.iconst 1, 1) := by decide +kernel
theorem dX2_isWholeBy_30 : decode cX2_isWholeBy 30 = .ok (.goto 4, 3) := by decide +kernel
theorem dX2_isWholeBy_33 : decode cX2_isWholeBy 33 = .ok (.iconst 0, 1) := by decide +kernel
theorem dX2_isWholeBy_34 : decode cX2_isWholeBy 34 = .ok (.ireturn, 1) := by decide +kernel
theorem dX2_isInBy_0 : decode cX2_isInBy 0 = .ok (.aload_n 0, 1) := by decide +kernel
theorem dX2_isInBy_1 : decode cX2_isInBy 1 = .ok (.iload_n 1, 1) := by decide +kernel
theorem dX2_isInBy_2 : decode cX2_isInBy 2 = .ok (.invokevirtual 88, 3) := by decide +kernel
theorem dX2_isInBy_5 : decode cX2_isInBy 5 = .ok (.ifCond .eq 27, 3) := by decide +kernel
theorem dX2_isInBy_8 : decode cX2_isInBy 8 = .ok (.aload_n 0, 1) := by decide +kernel
theorem dX2_isInBy_9 : decode cX2_isInBy 9 = .ok (.getfield 22, 3) := by decide +kernel
theorem dX2_isInBy_12 : decode cX2_isInBy 12 = .ok (.iload_n 1, 1) := by decide +kernel
theorem dX2_isInBy_13 : decode cX2_isInBy 13 = .ok (.iaload, 1) := by decide +kernel
theorem dX2_isInBy_14 : decode cX2_isInBy 14 = .ok (.iconst (-1), 1) := by decide +kernel
theorem dX2_isInBy_15 : decode cX2_isInBy 15 = .ok (.if_icmp .eq 13, 3) := by decide +kernel
theorem dX2_isInBy_18 : decode cX2_isInBy 18 = .ok (.aload_n 0, 1) := by decide +kernel
theorem dX2_isInBy_19 : decode cX2_isInBy 19 = .ok (.getfield 22, 3) := by decide +kernel
theorem dX2_isInBy_22 : decode cX2_isInBy 22 = .ok (.iload_n 1, 1) := by decide +kernel
theorem dX2_isInBy_23 : decode cX2_isInBy 23 = .ok (.iaload, 1) := by decide +kernel
theorem dX2_isInBy_24 : decode cX2_isInBy 24 = .ok (.iload_n 2, 1) := by decide +kernel
theorem dX2_isInBy_25 : decode cX2_isInBy 25 = .ok (.if_icmp .lt 7, 3) := by decide +kernel
theorem dX2_isInBy_28 : decode cX2_isInBy 28 = .ok (.iconst 1, 1) := by decide +kernel
theorem dX2_isInBy_29 : decode cX2_isInBy 29 = .ok (.goto 4, 3) := by decide +kernel
theorem dX2_isInBy_32 : decode cX2_isInBy 32 = .ok (.iconst 0, 1) := by decide +kernel
theorem dX2_isInBy_33 : decode cX2_isInBy 33 = .ok (.ireturn, 1) := by decide +kernel
theorem dX3_init_0 : decode cX3_init 0 = .ok (.aload_n 0, 1) := by decide +kernel
theorem dX3_init_1 : decode cX3_init 1 = .ok (.invokespecial 3, 3) := by decide +kernel
theorem dX3_init_4 : decode cX3_init 4 = .ok (.aload_n 0, 1) := by decide +kernel
theorem dX3_init_5 : decode cX3_init 5 = .ok (.iconst 4, 1) := by decide +kernel
theorem dX3_init_6 : decode cX3_init 6 = .ok (.newarray .int, 2) := by decide +kernel
theorem dX3_init_8 : decode cX3_init 8 = .ok (.dup, 1) := by decide +kernel
theorem dX3_init_9 : decode cX3_init 9 = .ok (.iconst 0, 1) := by decide +kernel
theorem dX3_init_10 : decode cX3_init 10 = .ok (.iconst 3, 1) := by decide +kernel
theorem dX3_init_11 : decode cX3_init 11 = .ok (.iastore, 1) := by decide +kernel
theorem dX3_init_12 : decode cX3_init 12 = .ok (.dup, 1) := by decide +kernel
theorem dX3_init_13 : decode cX3_init 13 = .ok (.iconst 1, 1) := by decide +kernel
theorem dX3_init_14 : decode cX3_init 14 = .ok (.iconst 3, 1) := by decide +kernel
theorem dX3_init_15 : decode cX3_init 15 = .ok (.iastore, 1) := by decide +kernel
theorem dX3_init_16 : decode cX3_init 16 = .ok (.dup, 1) := by decide +kernel
theorem dX3_init_17 : decode cX3_init 17 = .ok (.iconst 2, 1) := by decide +kernel
theorem dX3_init_18 : decode cX3_init 18 = .ok (.iconst 3, 1) := by decide +kernel
theorem dX3_init_19 : decode cX3_init 19 = .ok (.iastore, 1) := by decide +kernel
theorem dX3_init_20 : decode cX3_init 20 = .ok (.dup, 1) := by decide +kernel
theorem dX3_init_21 : decode cX3_init 21 = .ok (.iconst 3, 1) := by decide +kernel
theorem dX3_init_22 : decode cX3_init 22 = .ok (.iconst 3, 1) := by decide +kernel
theorem dX3_init_23 : decode cX3_init 23 = .ok (.iastore, 1) := by decide +kernel
theorem dX3_init_24 : decode cX3_init 24 = .ok (.putfield 11, 3) := by decide +kernel
theorem dX3_init_27 : decode cX3_init 27 = .ok (.aload_n 0, 1) := by decide +kernel
theorem dX3_init_28 : decode cX3_init 28 = .ok (.iconst 4, 1) := by decide +kernel
theorem dX3_init_29 : decode cX3_init 29 = .ok (.newarray .int, 2) := by decide +kernel
theorem dX3_init_31 : decode cX3_init 31 = .ok (.putfield 15, 3) := by decide +kernel
theorem dX3_init_34 : decode cX3_init 34 = .ok (.aload_n 0, 1) := by decide +kernel
theorem dX3_init_35 : decode cX3_init 35 = .ok (.iconst 4, 1) := by decide +kernel
theorem dX3_init_36 : decode cX3_init 36 = .ok (.bipush 9, 2) := by decide +kernel
theorem dX3_init_38 : decode cX3_init 38 = .ok (.multianewarray 18 2, 4) := by decide +kernel
theorem dX3_init_42 : decode cX3_init 42 = .ok (.putfield 20, 3) := by decide +kernel
theorem dX3_init_45 : decode cX3_init 45 = .ok (.return_, 1) := by decide +kernel
theorem dX3_makeRow_0 : decode cX3_makeRow 0 = .ok (.aload_n 0, 1) := by decide +kernel
theorem dX3_makeRow_1 : decode cX3_makeRow 1 = .ok (.getfield 11, 3) := by decide +kernel
theorem dX3_makeRow_4 : decode cX3_makeRow 4 = .ok (.iload_n 1, 1) := by decide +kernel
theorem dX3_makeRow_5 : decode cX3_makeRow 5 = .ok (.iload_n 2, 1) := by decide +kernel
theorem dX3_makeRow_6 : decode cX3_makeRow 6 = .ok (.iastore, 1) := by decide +kernel
theorem dX3_makeRow_7 : decode cX3_makeRow 7 = .ok (.aload_n 0, 1) := by decide +kernel
theorem dX3_makeRow_8 : decode cX3_makeRow 8 = .ok (.getfield 15, 3) := by decide +kernel
theorem dX3_makeRow_11 : decode cX3_makeRow 11 = .ok (.iload_n 1, 1) := by decide +kernel
theorem dX3_makeRow_12 : decode cX3_makeRow 12 = .ok (.iload_n 2, 1) := by decide +kernel
theorem dX3_makeRow_13 : decode cX3_makeRow 13 = .ok (.iconst 3, 1) := by decide +kernel
theorem dX3_makeRow_14 : decode cX3_makeRow 14 = .ok (.if_icmp .ne 7, 3) := by decide +kernel
theorem dX3_makeRow_17 : decode cX3_makeRow 17 = .ok (.iconst 0, 1) := by decide +kernel
theorem dX3_makeRow_18 : decode cX3_makeRow 18 = .ok (.goto 4, 3) := by decide +kernel
theorem dX3_makeRow_21 : decode cX3_makeRow 21 = .ok (.iload_n 3, 1) := by decide +kernel
theorem dX3_makeRow_22 : decode cX3_makeRow 22 = .ok (.iastore, 1) := by decide +kernel
theorem dX3_makeRow_23 : decode cX3_makeRow 23 = .ok (.iconst 0, 1) := by decide +kernel
theorem dX3_makeRow_24 : decode cX3_makeRow 24 = .ok (.istore 6, 2) := by decide +kernel
theorem dX3_makeRow_26 : decode cX3_makeRow 26 = .ok (.iload 6, 2) := by decide +kernel
theorem dX3_makeRow_28 : decode cX3_makeRow 28 = .ok (.aload_n 0, 1) := by decide +kernel
theorem dX3_makeRow_29 : decode cX3_makeRow 29 = .ok (.getfield 15, 3) := by decide +kernel
theorem dX3_makeRow_32 : decode cX3_makeRow 32 = .ok (.iload_n 1, 1) := by decide +kernel
theorem dX3_makeRow_33 : decode cX3_makeRow 33 = .ok (.iaload, 1) := by decide +kernel
theorem dX3_makeRow_34 : decode cX3_makeRow 34 = .ok (.if_icmp .ge 30, 3) := by decide +kernel
theorem dX3_makeRow_37 : decode cX3_makeRow 37 = .ok (.aload_n 0, 1) := by decide +kernel
theorem dX3_makeRow_38 : decode cX3_makeRow 38 = .ok (.getfield 20, 3) := by decide +kernel
theorem dX3_makeRow_41 : decode cX3_makeRow 41 = .ok (.iload_n 1, 1) := by decide +kernel
theorem dX3_makeRow_42 : decode cX3_makeRow 42 = .ok (.aaload, 1) := by decide +kernel
theorem dX3_makeRow_43 : decode cX3_makeRow 43 = .ok (.iload 6, 2) := by decide +kernel
theorem dX3_makeRow_45 : decode cX3_makeRow 45 = .ok (.iload_n 2, 1) := by decide +kernel
theorem dX3_makeRow_46 : decode cX3_makeRow 46 = .ok (.iload 4, 2) := by decide +kernel
theorem dX3_makeRow_48 : decode cX3_makeRow 48 = .ok (.iload 6, 2) := by decide +kernel
theorem dX3_makeRow_50 : decode cX3_makeRow 50 = .ok (.iload 5, 2) := by decide +kernel
theorem dX3_makeRow_52 : decode cX3_makeRow 52 = .ok (.imul, 1) := by decide +kernel
theorem dX3_makeRow_53 : decode cX3_makeRow 53 = .ok (.iadd, 1) := by decide +kernel
theorem dX3_makeRow_54 : decode cX3_makeRow 54 = .ok (.invokestatic 23, 3) := by decide +kernel
theorem dX3_makeRow_57 : decode cX3_makeRow 57 = .ok (.iastore, 1) := by decide +kernel
theorem dX3_makeRow_58 : decode cX3_makeRow 58 = .ok (.iinc 6 1, 3) := by decide +kernel
theorem dX3_makeRow_61 : decode cX3_makeRow 61 = .ok (.goto (-35), 3) := by decide +kernel
theorem dX3_makeRow_64 : decode cX3_makeRow 64 = .ok (.return_, 1) := by decide +kernel
theorem dX3_cutTo_0 : decode cX3_cutTo 0 = .ok (.iload_n 0, 1) := by decide +kernel
theorem dX3_cutTo_1 : decode cX3_cutTo 1 = .ok (.ifCond .ne 6, 3) := by decide +kernel
theorem dX3_cutTo_4 : decode cX3_cutTo 4 = .ok (.iload_n 1, 1) := by decide +kernel
theorem dX3_cutTo_5 : decode cX3_cutTo 5 = .ok (.i2b, 1) := by decide +kernel
theorem dX3_cutTo_6 : decode cX3_cutTo 6 = .ok (.ireturn, 1) := by decide +kernel
theorem dX3_cutTo_7 : decode cX3_cutTo 7 = .ok (.iload_n 0, 1) := by decide +kernel
theorem dX3_cutTo_8 : decode cX3_cutTo 8 = .ok (.iconst 1, 1) := by decide +kernel
theorem dX3_cutTo_9 : decode cX3_cutTo 9 = .ok (.if_icmp .ne 8, 3) := by decide +kernel
theorem dX3_cutTo_12 : decode cX3_cutTo 12 = .ok (.iload_n 1, 1) := by decide +kernel
theorem dX3_cutTo_13 : decode cX3_cutTo 13 = .ok (.i2s, 1) := by decide +kernel
theorem dX3_cutTo_14 : decode cX3_cutTo 14 = .ok (.goto 4, 3) := by decide +kernel
theorem dX3_cutTo_17 : decode cX3_cutTo 17 = .ok (.iload_n 1, 1) := by decide +kernel
theorem dX3_cutTo_18 : decode cX3_cutTo 18 = .ok (.ireturn, 1) := by decide +kernel
theorem dX3_isAbsent_0 : decode cX3_isAbsent 0 = .ok (.aload_n 0, 1) := by decide +kernel
theorem dX3_isAbsent_1 : decode cX3_isAbsent 1 = .ok (.getfield 11, 3) := by decide +kernel
theorem dX3_isAbsent_4 : decode cX3_isAbsent 4 = .ok (.iload_n 1, 1) := by decide +kernel
theorem dX3_isAbsent_5 : decode cX3_isAbsent 5 = .ok (.iaload, 1) := by decide +kernel
theorem dX3_isAbsent_6 : decode cX3_isAbsent 6 = .ok (.iconst 3, 1) := by decide +kernel
theorem dX3_isAbsent_7 : decode cX3_isAbsent 7 = .ok (.if_icmp .ne 7, 3) := by decide +kernel
theorem dX3_isAbsent_10 : decode cX3_isAbsent 10 = .ok (.iconst 1, 1) := by decide +kernel
theorem dX3_isAbsent_11 : decode cX3_isAbsent 11 = .ok (.goto 4, 3) := by decide +kernel
theorem dX3_isAbsent_14 : decode cX3_isAbsent 14 = .ok (.iconst 0, 1) := by decide +kernel
theorem dX3_isAbsent_15 : decode cX3_isAbsent 15 = .ok (.ireturn, 1) := by decide +kernel
theorem dX3_alike_0 : decode cX3_alike 0 = .ok (.aload_n 0, 1) := by decide +kernel
theorem dX3_alike_1 : decode cX3_alike 1 = .ok (.getfield 11, 3) := by decide +kernel
theorem dX3_alike_4 : decode cX3_alike 4 = .ok (.iload_n 1, 1) := by decide +kernel
theorem dX3_alike_5 : decode cX3_alike 5 = .ok (.iaload, 1) := by decide +kernel
theorem dX3_alike_6 : decode cX3_alike 6 = .ok (.aload_n 0, 1) := by decide +kernel
theorem dX3_alike_7 : decode cX3_alike 7 = .ok (.getfield 11, 3) := by decide +kernel
theorem dX3_alike_10 : decode cX3_alike 10 = .ok (.iload_n 2, 1) := by decide +kernel
theorem dX3_alike_11 : decode cX3_alike 11 = .ok (.iaload, 1) := by decide +kernel
theorem dX3_alike_12 : decode cX3_alike 12 = .ok (.if_icmp .ne 7, 3) := by decide +kernel
theorem dX3_alike_15 : decode cX3_alike 15 = .ok (.iconst 1, 1) := by decide +kernel
theorem dX3_alike_16 : decode cX3_alike 16 = .ok (.goto 4, 3) := by decide +kernel
theorem dX3_alike_19 : decode cX3_alike 19 = .ok (.iconst 0, 1) := by decide +kernel
theorem dX3_alike_20 : decode cX3_alike 20 = .ok (.ireturn, 1) := by decide +kernel
theorem dX3_holds_0 : decode cX3_holds 0 = .ok (.iload_n 3, 1) := by decide +kernel
theorem dX3_holds_1 : decode cX3_holds 1 = .ok (.ifCond .lt 33, 3) := by decide +kernel
theorem dX3_holds_4 : decode cX3_holds 4 = .ok (.iload_n 2, 1) := by decide +kernel
theorem dX3_holds_5 : decode cX3_holds 5 = .ok (.iconst 0, 1) := by decide +kernel
theorem dX3_holds_6 : decode cX3_holds 6 = .ok (.aload_n 0, 1) := by decide +kernel
theorem dX3_holds_7 : decode cX3_holds 7 = .ok (.getfield 15, 3) := by decide +kernel
theorem dX3_holds_10 : decode cX3_holds 10 = .ok (.iload_n 1, 1) := by decide +kernel
theorem dX3_holds_11 : decode cX3_holds 11 = .ok (.iaload, 1) := by decide +kernel
theorem dX3_holds_12 : decode cX3_holds 12 = .ok (.invokestatic 27, 3) := by decide +kernel
theorem dX3_holds_15 : decode cX3_holds 15 = .ok (.ifCond .eq 19, 3) := by decide +kernel
theorem dX3_holds_18 : decode cX3_holds 18 = .ok (.iload_n 3, 1) := by decide +kernel
theorem dX3_holds_19 : decode cX3_holds 19 = .ok (.aload_n 0, 1) := by decide +kernel
theorem dX3_holds_20 : decode cX3_holds 20 = .ok (.getfield 15, 3) := by decide +kernel
theorem dX3_holds_23 : decode cX3_holds 23 = .ok (.iload_n 1, 1) := by decide +kernel
theorem dX3_holds_24 : decode cX3_holds 24 = .ok (.iaload, 1) := by decide +kernel
theorem dX3_holds_25 : decode cX3_holds 25 = .ok (.iload_n 2, 1) := by decide +kernel
theorem dX3_holds_26 : decode cX3_holds 26 = .ok (.isub, 1) := by decide +kernel
theorem dX3_holds_27 : decode cX3_holds 27 = .ok (.if_icmp .gt 7, 3) := by decide +kernel
theorem dX3_holds_30 : decode cX3_holds 30 = .ok (.iconst 1, 1) := by decide +kernel
theorem dX3_holds_31 : decode cX3_holds 31 = .ok (.goto 4, 3) := by decide +kernel
theorem dX3_holds_34 : decode cX3_holds 34 = .ok (.iconst 0, 1) := by decide +kernel
theorem dX3_holds_35 : decode cX3_holds 35 = .ok (.ireturn, 1) := by decide +kernel
theorem dX3_carry_0 : decode cX3_carry 0 = .ok (.aload_n 0, 1) := by decide +kernel
theorem dX3_carry_1 : decode cX3_carry 1 = .ok (.getfield 20, 3) := by decide +kernel
theorem dX3_carry_4 : decode cX3_carry 4 = .ok (.iload_n 1, 1) := by decide +kernel
theorem dX3_carry_5 : decode cX3_carry 5 = .ok (.aaload, 1) := by decide +kernel
theorem dX3_carry_6 : decode cX3_carry 6 = .ok (.iload_n 2, 1) := by decide +kernel
theorem dX3_carry_7 : decode cX3_carry 7 = .ok (.aload_n 0, 1) := by decide +kernel
theorem dX3_carry_8 : decode cX3_carry 8 = .ok (.getfield 20, 3) := by decide +kernel
theorem dX3_carry_11 : decode cX3_carry 11 = .ok (.iload_n 3, 1) := by decide +kernel
theorem dX3_carry_12 : decode cX3_carry 12 = .ok (.aaload, 1) := by decide +kernel
theorem dX3_carry_13 : decode cX3_carry 13 = .ok (.iload 4, 2) := by decide +kernel
theorem dX3_carry_15 : decode cX3_carry 15 = .ok (.iload 5, 2) := by decide +kernel
theorem dX3_carry_17 : decode cX3_carry 17 = .ok (.invokestatic 31, 3) := by decide +kernel
theorem dX3_carry_20 : decode cX3_carry 20 = .ok (.return_, 1) := by decide +kernel
theorem dX3_glideOf_0 : decode cX3_glideOf 0 = .ok (.iload_n 2, 1) := by decide +kernel
theorem dX3_glideOf_1 : decode cX3_glideOf 1 = .ok (.bipush 125, 2) := by decide +kernel
theorem dX3_glideOf_3 : decode cX3_glideOf 3 = .ok (.idiv, 1) := by decide +kernel
theorem dX3_glideOf_4 : decode cX3_glideOf 4 = .ok (.istore_n 3, 1) := by decide +kernel
theorem dX3_glideOf_5 : decode cX3_glideOf 5 = .ok (.iload_n 3, 1) := by decide +kernel
theorem dX3_glideOf_6 : decode cX3_glideOf 6 = .ok (.iconst 0, 1) := by decide +kernel
theorem dX3_glideOf_7 : decode cX3_glideOf 7 = .ok (.aload_n 0, 1) := by decide +kernel
theorem dX3_glideOf_8 : decode cX3_glideOf 8 = .ok (.getfield 15, 3) := by decide +kernel
theorem dX3_glideOf_11 : decode cX3_glideOf 11 = .ok (.iload_n 1, 1) := by decide +kernel
theorem dX3_glideOf_12 : decode cX3_glideOf 12 = .ok (.iaload, 1) := by decide +kernel
theorem dX3_glideOf_13 : decode cX3_glideOf 13 = .ok (.iconst 1, 1) := by decide +kernel
theorem dX3_glideOf_14 : decode cX3_glideOf 14 = .ok (.isub, 1) := by decide +kernel
theorem dX3_glideOf_15 : decode cX3_glideOf 15 = .ok (.invokestatic 27, 3) := by decide +kernel
theorem dX3_glideOf_18 : decode cX3_glideOf 18 = .ok (.ifCond .ne 5, 3) := by decide +kernel
theorem dX3_glideOf_21 : decode cX3_glideOf 21 = .ok (.iconst 0, 1) := by decide +kernel
theorem dX3_glideOf_22 : decode cX3_glideOf 22 = .ok (.ireturn, 1) := by decide +kernel
theorem dX3_glideOf_23 : decode cX3_glideOf 23 = .ok (.sipush (-200), 3) := by decide +kernel
theorem dX3_glideOf_26 : decode cX3_glideOf 26 = .ok (.sipush 200, 3) := by decide +kernel
theorem dX3_glideOf_29 : decode cX3_glideOf 29 = .ok (.aload_n 0, 1) := by decide +kernel
theorem dX3_glideOf_30 : decode cX3_glideOf 30 = .ok (.getfield 20, 3) := by decide +kernel
theorem dX3_glideOf_33 : decode cX3_glideOf 33 = .ok (.iload_n 1, 1) := by decide +kernel
theorem dX3_glideOf_34 : decode cX3_glideOf 34 = .ok (.aaload, 1) := by decide +kernel
theorem dX3_glideOf_35 : decode cX3_glideOf 35 = .ok (.iload_n 3, 1) := by decide +kernel
theorem dX3_glideOf_36 : decode cX3_glideOf 36 = .ok (.iaload, 1) := by decide +kernel
theorem dX3_glideOf_37 : decode cX3_glideOf 37 = .ok (.invokestatic 37, 3) := by decide +kernel
theorem dX3_glideOf_40 : decode cX3_glideOf 40 = .ok (.invokestatic 42, 3) := by decide +kernel
theorem dX3_glideOf_43 : decode cX3_glideOf 43 = .ok (.ireturn, 1) := by decide +kernel
theorem dX4_init_0 : decode cX4_init 0 = .ok (.aload_n 0, 1) := by decide +kernel
theorem dX4_init_1 : decode cX4_init 1 = .ok (.invokespecial 3, 3) := by decide +kernel
theorem dX4_init_4 : decode cX4_init 4 = .ok (.aload_n 0, 1) := by decide +kernel
theorem dX4_init_5 : decode cX4_init 5 = .ok (.bipush 64, 2) := by decide +kernel
theorem dX4_init_7 : decode cX4_init 7 = .ok (.newarray .boolean, 2) := by decide +kernel
theorem dX4_init_9 : decode cX4_init 9 = .ok (.putfield 9, 3) := by decide +kernel
theorem dX4_init_12 : decode cX4_init 12 = .ok (.aload_n 0, 1) := by decide +kernel
theorem dX4_init_13 : decode cX4_init 13 = .ok (.bipush 64, 2) := by decide +kernel
theorem dX4_init_15 : decode cX4_init 15 = .ok (.newarray .int, 2) := by decide +kernel
theorem dX4_init_17 : decode cX4_init 17 = .ok (.putfield 15, 3) := by decide +kernel
theorem dX4_init_20 : decode cX4_init 20 = .ok (.aload_n 0, 1) := by decide +kernel
theorem dX4_init_21 : decode cX4_init 21 = .ok (.bipush 64, 2) := by decide +kernel
theorem dX4_init_23 : decode cX4_init 23 = .ok (.newarray .int, 2) := by decide +kernel
theorem dX4_init_25 : decode cX4_init 25 = .ok (.putfield 19, 3) := by decide +kernel
theorem dX4_init_28 : decode cX4_init 28 = .ok (.aload_n 0, 1) := by decide +kernel
theorem dX4_init_29 : decode cX4_init 29 = .ok (.sipush 384, 3) := by decide +kernel
theorem dX4_init_32 : decode cX4_init 32 = .ok (.newarray .int, 2) := by decide +kernel
theorem dX4_init_34 : decode cX4_init 34 = .ok (.putfield 22, 3) := by decide +kernel
theorem dX4_init_37 : decode cX4_init 37 = .ok (.aload_n 0, 1) := by decide +kernel
theorem dX4_init_38 : decode cX4_init 38 = .ok (.sipush 384, 3) := by decide +kernel
theorem dX4_init_41 : decode cX4_init 41 = .ok (.newarray .int, 2) := by decide +kernel
theorem dX4_init_43 : decode cX4_init 43 = .ok (.putfield 25, 3) := by decide +kernel
theorem dX4_init_46 : decode cX4_init 46 = .ok (.return_, 1) := by decide +kernel
theorem dX4_forgetAll_0 : decode cX4_forgetAll 0 = .ok (.iconst 0, 1) := by decide +kernel
theorem dX4_forgetAll_1 : decode cX4_forgetAll 1 = .ok (.istore_n 1, 1) := by decide +kernel
theorem dX4_forgetAll_2 : decode cX4_forgetAll 2 = .ok (.iload_n 1, 1) := by decide +kernel
theorem dX4_forgetAll_3 : decode cX4_forgetAll 3 = .ok (.aload_n 0, 1) := by decide +kernel
theorem dX4_forgetAll_4 : decode cX4_forgetAll 4 = .ok (.getfield 9, 3) := by decide +kernel
theorem dX4_forgetAll_7 : decode cX4_forgetAll 7 = .ok (.arraylength, 1) := by decide +kernel
theorem dX4_forgetAll_8 : decode cX4_forgetAll 8 = .ok (.if_icmp .ge 16, 3) := by decide +kernel
theorem dX4_forgetAll_11 : decode cX4_forgetAll 11 = .ok (.aload_n 0, 1) := by decide +kernel
theorem dX4_forgetAll_12 : decode cX4_forgetAll 12 = .ok (.getfield 9, 3) := by decide +kernel
theorem dX4_forgetAll_15 : decode cX4_forgetAll 15 = .ok (.iload_n 1, 1) := by decide +kernel
theorem dX4_forgetAll_16 : decode cX4_forgetAll 16 = .ok (.iconst 0, 1) := by decide +kernel
theorem dX4_forgetAll_17 : decode cX4_forgetAll 17 = .ok (.bastore, 1) := by decide +kernel
theorem dX4_forgetAll_18 : decode cX4_forgetAll 18 = .ok (.iinc 1 1, 3) := by decide +kernel
theorem dX4_forgetAll_21 : decode cX4_forgetAll 21 = .ok (.goto (-19), 3) := by decide +kernel
theorem dX4_forgetAll_24 : decode cX4_forgetAll 24 = .ok (.return_, 1) := by decide +kernel
theorem dX4_line_0 : decode cX4_line 0 = .ok (.iload_n 0, 1) := by decide +kernel
theorem dX4_line_1 : decode cX4_line 1 = .ok (.bipush 16, 2) := by decide +kernel
theorem dX4_line_3 : decode cX4_line 3 = .ok (.imul, 1) := by decide +kernel
theorem dX4_line_4 : decode cX4_line 4 = .ok (.iload_n 1, 1) := by decide +kernel
theorem dX4_line_5 : decode cX4_line 5 = .ok (.iadd, 1) := by decide +kernel
theorem dX4_line_6 : decode cX4_line 6 = .ok (.ireturn, 1) := by decide +kernel
theorem dX4_spot_0 : decode cX4_spot 0 = .ok (.iload_n 0, 1) := by decide +kernel
theorem dX4_spot_1 : decode cX4_spot 1 = .ok (.iload_n 1, 1) := by decide +kernel
theorem dX4_spot_2 : decode cX4_spot 2 = .ok (.invokestatic 28, 3) := by decide +kernel
theorem dX4_spot_5 : decode cX4_spot 5 = .ok (.bipush 6, 2) := by decide +kernel
theorem dX4_spot_7 : decode cX4_spot 7 = .ok (.imul, 1) := by decide +kernel
theorem dX4_spot_8 : decode cX4_spot 8 = .ok (.iload_n 2, 1) := by decide +kernel
theorem dX4_spot_9 : decode cX4_spot 9 = .ok (.iadd, 1) := by decide +kernel
theorem dX4_spot_10 : decode cX4_spot 10 = .ok (.ireturn, 1) := by decide +kernel
theorem dX4_open_0 : decode cX4_open 0 = .ok (.aload_n 0, 1) := by decide +kernel
theorem dX4_open_1 : decode cX4_open 1 = .ok (.getfield 9, 3) := by decide +kernel
theorem dX4_open_4 : decode cX4_open 4 = .ok (.iload_n 1, 1) := by decide +kernel
theorem dX4_open_5 : decode cX4_open 5 = .ok (.iload_n 2, 1) := by decide +kernel
theorem dX4_open_6 : decode cX4_open 6 = .ok (.invokestatic 28, 3) := by decide +kernel
theorem dX4_open_9 : decode cX4_open 9 = .ok (.iconst 1, 1) := by decide +kernel
theorem dX4_open_10 : decode cX4_open 10 = .ok (.bastore, 1) := by decide +kernel
theorem dX4_open_11 : decode cX4_open 11 = .ok (.aload_n 0, 1) := by decide +kernel
theorem dX4_open_12 : decode cX4_open 12 = .ok (.getfield 19, 3) := by decide +kernel
theorem dX4_open_15 : decode cX4_open 15 = .ok (.iload_n 1, 1) := by decide +kernel
theorem dX4_open_16 : decode cX4_open 16 = .ok (.iload_n 2, 1) := by decide +kernel
theorem dX4_open_17 : decode cX4_open 17 = .ok (.invokestatic 28, 3) := by decide +kernel
theorem dX4_open_20 : decode cX4_open 20 = .ok (.iload_n 3, 1) := by decide +kernel
theorem dX4_open_21 : decode cX4_open 21 = .ok (.iastore, 1) := by decide +kernel
theorem dX4_open_22 : decode cX4_open 22 = .ok (.aload_n 0, 1) := by decide +kernel
theorem dX4_open_23 : decode cX4_open 23 = .ok (.iload_n 1, 1) := by decide +kernel
theorem dX4_open_24 : decode cX4_open 24 = .ok (.iload_n 2, 1) := by decide +kernel
theorem dX4_open_25 : decode cX4_open 25 = .ok (.iconst 0, 1) := by decide +kernel
theorem dX4_open_26 : decode cX4_open 26 = .ok (.iconst 0, 1) := by decide +kernel
theorem dX4_open_27 : decode cX4_open 27 = .ok (.iconst 0, 1) := by decide +kernel
theorem dX4_open_28 : decode cX4_open 28 = .ok (.invokevirtual 32, 3) := by decide +kernel
theorem dX4_open_31 : decode cX4_open 31 = .ok (.return_, 1) := by decide +kernel
theorem dX4_write_0 : decode cX4_write 0 = .ok (.aload_n 0, 1) := by decide +kernel
theorem dX4_write_1 : decode cX4_write 1 = .ok (.getfield 22, 3) := by decide +kernel
theorem dX4_write_4 : decode cX4_write 4 = .ok (.iload_n 1, 1) := by decide +kernel
theorem dX4_write_5 : decode cX4_write 5 = .ok (.iload_n 2, 1) := by decide +kernel
theorem dX4_write_6 : decode cX4_write 6 = .ok (.iload_n 3, 1) := by decide +kernel
theorem dX4_write_7 : decode cX4_write 7 = .ok (.invokestatic 36, 3) := by decide +kernel
theorem dX4_write_10 : decode cX4_write 10 = .ok (.iload 4, 2) := by decide +kernel
theorem dX4_write_12 : decode cX4_write 12 = .ok (.iastore, 1) := by decide +kernel
theorem dX4_write_13 : decode cX4_write 13 = .ok (.aload_n 0, 1) := by decide +kernel
theorem dX4_write_14 : decode cX4_write 14 = .ok (.getfield 25, 3) := by decide +kernel
theorem dX4_write_17 : decode cX4_write 17 = .ok (.iload_n 1, 1) := by decide +kernel
theorem dX4_write_18 : decode cX4_write 18 = .ok (.iload_n 2, 1) := by decide +kernel
theorem dX4_write_19 : decode cX4_write 19 = .ok (.iload_n 3, 1) := by decide +kernel
theorem dX4_write_20 : decode cX4_write 20 = .ok (.invokestatic 36, 3) := by decide +kernel
theorem dX4_write_23 : decode cX4_write 23 = .ok (.iload 5, 2) := by decide +kernel
theorem dX4_write_25 : decode cX4_write 25 = .ok (.iastore, 1) := by decide +kernel
theorem dX4_write_26 : decode cX4_write 26 = .ok (.return_, 1) := by decide +kernel
theorem dX4_addUp_0 : decode cX4_addUp 0 = .ok (.iconst 0, 1) := by decide +kernel
theorem dX4_addUp_1 : decode cX4_addUp 1 = .ok (.istore 4, 2) := by decide +kernel
theorem dX4_addUp_3 : decode cX4_addUp 3 = .ok (.iconst 1, 1) := by decide +kernel
theorem dX4_addUp_4 : decode cX4_addUp 4 = .ok (.istore 5, 2) := by decide +kernel
theorem dX4_addUp_6 : decode cX4_addUp 6 = .ok (.iload 5, 2) := by decide +kernel
theorem dX4_addUp_8 : decode cX4_addUp 8 = .ok (.iload_n 3, 1) := by decide +kernel
theorem dX4_addUp_9 : decode cX4_addUp 9 = .ok (.if_icmp .ge 24, 3) := by decide +kernel
theorem dX4_addUp_12 : decode cX4_addUp 12 = .ok (.aload_n 0, 1) := by decide +kernel
theorem dX4_addUp_13 : decode cX4_addUp 13 = .ok (.iload_n 1, 1) := by decide +kernel
theorem dX4_addUp_14 : decode cX4_addUp 14 = .ok (.iload_n 2, 1) := by decide +kernel
theorem dX4_addUp_15 : decode cX4_addUp 15 = .ok (.iload 5, 2) := by decide +kernel
theorem dX4_addUp_17 : decode cX4_addUp 17 = .ok (.invokevirtual 40, 3) := by decide +kernel
theorem dX4_addUp_20 : decode cX4_addUp 20 = .ok (.ifCond .eq 7, 3) := by decide +kernel
theorem dX4_addUp_23 : decode cX4_addUp 23 = .ok (.iload 5, 2) := by decide +kernel
theorem dX4_addUp_25 : decode cX4_addUp 25 = .ok (.istore 4, 2) := by decide +kernel
theorem dX4_addUp_27 : decode cX4_addUp 27 = .ok (.iinc 5 1, 3) := by decide +kernel
theorem dX4_addUp_30 : decode cX4_addUp 30 = .ok (.goto (-24), 3) := by decide +kernel
theorem dX4_addUp_33 : decode cX4_addUp 33 = .ok (.iload 4, 2) := by decide +kernel
theorem dX4_addUp_35 : decode cX4_addUp 35 = .ok (.iload_n 3, 1) := by decide +kernel
theorem dX4_addUp_36 : decode cX4_addUp 36 = .ok (.iconst 1, 1) := by decide +kernel
theorem dX4_addUp_37 : decode cX4_addUp 37 = .ok (.isub, 1) := by decide +kernel
theorem dX4_addUp_38 : decode cX4_addUp 38 = .ok (.if_icmp .ne 7, 3) := by decide +kernel
theorem dX4_addUp_41 : decode cX4_addUp 41 = .ok (.iconst 0, 1) := by decide +kernel
theorem dX4_addUp_42 : decode cX4_addUp 42 = .ok (.goto 6, 3) := by decide +kernel
theorem dX4_addUp_45 : decode cX4_addUp 45 = .ok (.sipush 10000, 3) := by decide +kernel
theorem dX4_addUp_48 : decode cX4_addUp 48 = .ok (.istore 5, 2) := by decide +kernel
theorem dX4_addUp_50 : decode cX4_addUp 50 = .ok (.aload_n 0, 1) := by decide +kernel
theorem dX4_addUp_51 : decode cX4_addUp 51 = .ok (.getfield 15, 3) := by decide +kernel
theorem dX4_addUp_54 : decode cX4_addUp 54 = .ok (.iload_n 1, 1) := by decide +kernel
theorem dX4_addUp_55 : decode cX4_addUp 55 = .ok (.iload_n 2, 1) := by decide +kernel
theorem dX4_addUp_56 : decode cX4_addUp 56 = .ok (.invokestatic 28, 3) := by decide +kernel
theorem dX4_addUp_59 : decode cX4_addUp 59 = .ok (.aload_n 0, 1) := by decide +kernel
theorem dX4_addUp_60 : decode cX4_addUp 60 = .ok (.iload_n 1, 1) := by decide +kernel
theorem dX4_addUp_61 : decode cX4_addUp 61 = .ok (.iload_n 2, 1) := by decide +kernel
theorem dX4_addUp_62 : decode cX4_addUp 62 = .ok (.iload 4, 2) := by decide +kernel
theorem dX4_addUp_64 : decode cX4_addUp 64 = .ok (.invokevirtual 44, 3) := by decide +kernel
theorem dX4_addUp_67 : decode cX4_addUp 67 = .ok (.iload 5, 2) := by decide +kernel
theorem dX4_addUp_69 : decode cX4_addUp 69 = .ok (.iadd, 1) := by decide +kernel
theorem dX4_addUp_70 : decode cX4_addUp 70 = .ok (.iastore, 1) := by decide +kernel
theorem dX4_addUp_71 : decode cX4_addUp 71 = .ok (.return_, 1) := by decide +kernel
theorem dX4_hasDown_0 : decode cX4_hasDown 0 = .ok (.iload_n 1, 1) := by decide +kernel
theorem dX4_hasDown_1 : decode cX4_hasDown 1 = .ok (.iconst 0, 1) := by decide +kernel
theorem dX4_hasDown_2 : decode cX4_hasDown 2 = .ok (.iconst 3, 1) := by decide +kernel
theorem dX4_hasDown_3 : decode cX4_hasDown 3 = .ok (.invokestatic 47, 3) := by decide +kernel
theorem dX4_hasDown_6 : decode cX4_hasDown 6 = .ok (.ifCond .eq 30, 3) := by decide +kernel
theorem dX4_hasDown_9 : decode cX4_hasDown 9 = .ok (.iload_n 2, 1) := by decide +kernel
theorem dX4_hasDown_10 : decode cX4_hasDown 10 = .ok (.iconst 0, 1) := by decide +kernel
theorem dX4_hasDown_11 : decode cX4_hasDown 11 = .ok (.bipush 15, 2) := by decide +kernel
theorem dX4_hasDown_13 : decode cX4_hasDown 13 = .ok (.invokestatic 47, 3) := by decide +kernel
theorem dX4_hasDown_16 : decode cX4_hasDown 16 = .ok (.ifCond .eq 20, 3) := by decide +kernel
theorem dX4_hasDown_19 : decode cX4_hasDown 19 = .ok (.aload_n 0, 1) := by decide +kernel
theorem dX4_hasDown_20 : decode cX4_hasDown 20 = .ok (.getfield 9, 3) := by decide +kernel
theorem dX4_hasDown_23 : decode cX4_hasDown 23 = .ok (.iload_n 1, 1) := by decide +kernel
theorem dX4_hasDown_24 : decode cX4_hasDown 24 = .ok (.iload_n 2, 1) := by decide +kernel
theorem dX4_hasDown_25 : decode cX4_hasDown 25 = .ok (.invokestatic 28, 3) := by decide +kernel
theorem dX4_hasDown_28 : decode cX4_hasDown 28 = .ok (.baload, 1) := by decide +kernel
theorem dX4_hasDown_29 : decode cX4_hasDown 29 = .ok (.ifCond .eq 7, 3) := by decide +kernel
theorem dX4_hasDown_32 : decode cX4_hasDown 32 = .ok (.iconst 1, 1) := by decide +kernel
theorem dX4_hasDown_33 : decode cX4_hasDown 33 = .ok (.goto 4, 3) := by decide +kernel
theorem dX4_hasDown_36 : decode cX4_hasDown 36 = .ok (.iconst 0, 1) := by decide +kernel
theorem dX4_hasDown_37 : decode cX4_hasDown 37 = .ok (.ireturn, 1) := by decide +kernel
theorem dX4_timeAt_0 : decode cX4_timeAt 0 = .ok (.aload_n 0, 1) := by decide +kernel
theorem dX4_timeAt_1 : decode cX4_timeAt 1 = .ok (.getfield 22, 3) := by decide +kernel
theorem dX4_timeAt_4 : decode cX4_timeAt 4 = .ok (.iload_n 1, 1) := by decide +kernel
theorem dX4_timeAt_5 : decode cX4_timeAt 5 = .ok (.iload_n 2, 1) := by decide +kernel
theorem dX4_timeAt_6 : decode cX4_timeAt 6 = .ok (.iload_n 3, 1) := by decide +kernel
theorem dX4_timeAt_7 : decode cX4_timeAt 7 = .ok (.invokestatic 36, 3) := by decide +kernel
theorem dX4_timeAt_10 : decode cX4_timeAt 10 = .ok (.iaload, 1) := by decide +kernel
theorem dX4_timeAt_11 : decode cX4_timeAt 11 = .ok (.ireturn, 1) := by decide +kernel
theorem dX4_doubleAt_0 : decode cX4_doubleAt 0 = .ok (.aload_n 0, 1) := by decide +kernel
theorem dX4_doubleAt_1 : decode cX4_doubleAt 1 = .ok (.getfield 25, 3) := by decide +kernel
theorem dX4_doubleAt_4 : decode cX4_doubleAt 4 = .ok (.iload_n 1, 1) := by decide +kernel
theorem dX4_doubleAt_5 : decode cX4_doubleAt 5 = .ok (.iload_n 2, 1) := by decide +kernel
theorem dX4_doubleAt_6 : decode cX4_doubleAt 6 = .ok (.iload_n 3, 1) := by decide +kernel
theorem dX4_doubleAt_7 : decode cX4_doubleAt 7 = .ok (.invokestatic 36, 3) := by decide +kernel
theorem dX4_doubleAt_10 : decode cX4_doubleAt 10 = .ok (.iaload, 1) := by decide +kernel
theorem dX4_doubleAt_11 : decode cX4_doubleAt 11 = .ok (.ireturn, 1) := by decide +kernel
theorem dX4_totalOf_0 : decode cX4_totalOf 0 = .ok (.aload_n 0, 1) := by decide +kernel
theorem dX4_totalOf_1 : decode cX4_totalOf 1 = .ok (.getfield 15, 3) := by decide +kernel
theorem dX4_totalOf_4 : decode cX4_totalOf 4 = .ok (.iload_n 1, 1) := by decide +kernel
theorem dX4_totalOf_5 : decode cX4_totalOf 5 = .ok (.iload_n 2, 1) := by decide +kernel
theorem dX4_totalOf_6 : decode cX4_totalOf 6 = .ok (.invokestatic 28, 3) := by decide +kernel
theorem dX4_totalOf_9 : decode cX4_totalOf 9 = .ok (.iaload, 1) := by decide +kernel
theorem dX4_totalOf_10 : decode cX4_totalOf 10 = .ok (.ireturn, 1) := by decide +kernel
theorem dX4_iceOf_0 : decode cX4_iceOf 0 = .ok (.iconst 0, 1) := by decide +kernel
theorem dX4_iceOf_1 : decode cX4_iceOf 1 = .ok (.istore_n 3, 1) := by decide +kernel
theorem dX4_iceOf_2 : decode cX4_iceOf 2 = .ok (.iconst 0, 1) := by decide +kernel
theorem dX4_iceOf_3 : decode cX4_iceOf 3 = .ok (.istore 4, 2) := by decide +kernel
theorem dX4_iceOf_5 : decode cX4_iceOf 5 = .ok (.iconst 0, 1) := by decide +kernel
theorem dX4_iceOf_6 : decode cX4_iceOf 6 = .ok (.istore 5, 2) := by decide +kernel
theorem dX4_iceOf_8 : decode cX4_iceOf 8 = .ok (.iload 5, 2) := by decide +kernel
theorem dX4_iceOf_10 : decode cX4_iceOf 10 = .ok (.bipush 16, 2) := by decide +kernel
theorem dX4_iceOf_12 : decode cX4_iceOf 12 = .ok (.if_icmp .ge 38, 3) := by decide +kernel
theorem dX4_iceOf_15 : decode cX4_iceOf 15 = .ok (.aload_n 0, 1) := by decide +kernel
theorem dX4_iceOf_16 : decode cX4_iceOf 16 = .ok (.iload_n 1, 1) := by decide +kernel
theorem dX4_iceOf_17 : decode cX4_iceOf 17 = .ok (.iload 5, 2) := by decide +kernel
theorem dX4_iceOf_19 : decode cX4_iceOf 19 = .ok (.invokevirtual 50, 3) := by decide +kernel
theorem dX4_iceOf_22 : decode cX4_iceOf 22 = .ok (.ifCond .eq 22, 3) := by decide +kernel
theorem dX4_iceOf_25 : decode cX4_iceOf 25 = .ok (.iinc 3 1, 3) := by decide +kernel
theorem dX4_iceOf_28 : decode cX4_iceOf 28 = .ok (.iload 4, 2) := by decide +kernel
theorem dX4_iceOf_30 : decode cX4_iceOf 30 = .ok (.aload_n 0, 1) := by decide +kernel
theorem dX4_iceOf_31 : decode cX4_iceOf 31 = .ok (.getfield 19, 3) := by decide +kernel
theorem dX4_iceOf_34 : decode cX4_iceOf 34 = .ok (.iload_n 1, 1) := by decide +kernel
theorem dX4_iceOf_35 : decode cX4_iceOf 35 = .ok (.iload 5, 2) := by decide +kernel
theorem dX4_iceOf_37 : decode cX4_iceOf 37 = .ok (.invokestatic 28, 3) := by decide +kernel
theorem dX4_iceOf_40 : decode cX4_iceOf 40 = .ok (.iaload, 1) := by decide +kernel
theorem dX4_iceOf_41 : decode cX4_iceOf 41 = .ok (.iadd, 1) := by decide +kernel
theorem dX4_iceOf_42 : decode cX4_iceOf 42 = .ok (.istore 4, 2) := by decide +kernel
theorem dX4_iceOf_44 : decode cX4_iceOf 44 = .ok (.iinc 5 1, 3) := by decide +kernel
theorem dX4_iceOf_47 : decode cX4_iceOf 47 = .ok (.goto (-39), 3) := by decide +kernel
theorem dX4_iceOf_50 : decode cX4_iceOf 50 = .ok (.iload_n 3, 1) := by decide +kernel
theorem dX4_iceOf_51 : decode cX4_iceOf 51 = .ok (.aload_n 0, 1) := by decide +kernel
theorem dX4_iceOf_52 : decode cX4_iceOf 52 = .ok (.getfield 19, 3) := by decide +kernel
theorem dX4_iceOf_55 : decode cX4_iceOf 55 = .ok (.iload_n 1, 1) := by decide +kernel
theorem dX4_iceOf_56 : decode cX4_iceOf 56 = .ok (.iload_n 2, 1) := by decide +kernel
theorem dX4_iceOf_57 : decode cX4_iceOf 57 = .ok (.invokestatic 28, 3) := by decide +kernel
theorem dX4_iceOf_60 : decode cX4_iceOf 60 = .ok (.iaload, 1) := by decide +kernel
theorem dX4_iceOf_61 : decode cX4_iceOf 61 = .ok (.imul, 1) := by decide +kernel
theorem dX4_iceOf_62 : decode cX4_iceOf 62 = .ok (.iload 4, 2) := by decide +kernel
theorem dX4_iceOf_64 : decode cX4_iceOf 64 = .ok (.isub, 1) := by decide +kernel
theorem dX4_iceOf_65 : decode cX4_iceOf 65 = .ok (.ireturn, 1) := by decide +kernel
theorem dX4_lostIn_0 : decode cX4_lostIn 0 = .ok (.iload_n 3, 1) := by decide +kernel
theorem dX4_lostIn_1 : decode cX4_lostIn 1 = .ok (.istore 5, 2) := by decide +kernel
theorem dX4_lostIn_3 : decode cX4_lostIn 3 = .ok (.iload 5, 2) := by decide +kernel
theorem dX4_lostIn_5 : decode cX4_lostIn 5 = .ok (.ifCond .le 20, 3) := by decide +kernel
theorem dX4_lostIn_8 : decode cX4_lostIn 8 = .ok (.aload_n 0, 1) := by decide +kernel
theorem dX4_lostIn_9 : decode cX4_lostIn 9 = .ok (.iload_n 1, 1) := by decide +kernel
theorem dX4_lostIn_10 : decode cX4_lostIn 10 = .ok (.iload_n 2, 1) := by decide +kernel
theorem dX4_lostIn_11 : decode cX4_lostIn 11 = .ok (.iload 5, 2) := by decide +kernel
theorem dX4_lostIn_13 : decode cX4_lostIn 13 = .ok (.invokevirtual 40, 3) := by decide +kernel
theorem dX4_lostIn_16 : decode cX4_lostIn 16 = .ok (.ifCond .ne 9, 3) := by decide +kernel
theorem dX4_lostIn_19 : decode cX4_lostIn 19 = .ok (.iinc 5 (-1), 3) := by decide +kernel
theorem dX4_lostIn_22 : decode cX4_lostIn 22 = .ok (.goto (-19), 3) := by decide +kernel
theorem dX4_lostIn_25 : decode cX4_lostIn 25 = .ok (.iload_n 3, 1) := by decide +kernel
theorem dX4_lostIn_26 : decode cX4_lostIn 26 = .ok (.iconst 1, 1) := by decide +kernel
theorem dX4_lostIn_27 : decode cX4_lostIn 27 = .ok (.iadd, 1) := by decide +kernel
theorem dX4_lostIn_28 : decode cX4_lostIn 28 = .ok (.istore 6, 2) := by decide +kernel
theorem dX4_lostIn_30 : decode cX4_lostIn 30 = .ok (.iload 6, 2) := by decide +kernel
theorem dX4_lostIn_32 : decode cX4_lostIn 32 = .ok (.iload 4, 2) := by decide +kernel
theorem dX4_lostIn_34 : decode cX4_lostIn 34 = .ok (.if_icmp .ge 20, 3) := by decide +kernel
theorem dX4_lostIn_37 : decode cX4_lostIn 37 = .ok (.aload_n 0, 1) := by decide +kernel
theorem dX4_lostIn_38 : decode cX4_lostIn 38 = .ok (.iload_n 1, 1) := by decide +kernel
theorem dX4_lostIn_39 : decode cX4_lostIn 39 = .ok (.iload_n 2, 1) := by decide +kernel
theorem dX4_lostIn_40 : decode cX4_lostIn 40 = .ok (.iload 6, 2) := by decide +kernel
theorem dX4_lostIn_42 : decode cX4_lostIn 42 = .ok (.invokevirtual 40, 3) := by decide +kernel
theorem dX4_lostIn_45 : decode cX4_lostIn 45 = .ok (.ifCond .ne 9, 3) := by decide +kernel
theorem dX4_lostIn_48 : decode cX4_lostIn 48 = .ok (.iinc 6 1, 3) := by decide +kernel
theorem dX4_lostIn_51 : decode cX4_lostIn 51 = .ok (.goto (-21), 3) := by decide +kernel
theorem dX4_lostIn_54 : decode cX4_lostIn 54 = .ok (.iload 6, 2) := by decide +kernel
theorem dX4_lostIn_56 : decode cX4_lostIn 56 = .ok (.iload 5, 2) := by decide +kernel
theorem dX4_lostIn_58 : decode cX4_lostIn 58 = .ok (.isub, 1) := by decide +kernel
theorem dX4_lostIn_59 : decode cX4_lostIn 59 = .ok (.istore 7, 2) := by decide +kernel
theorem dX4_lostIn_61 : decode cX4_lostIn 61 = .ok (.iload 6, 2) := by decide +kernel
theorem dX4_lostIn_63 : decode cX4_lostIn 63 = .ok (.iload 4, 2) := by decide +kernel
theorem dX4_lostIn_65 : decode cX4_lostIn 65 = .ok (.if_icmp .ge 9, 3) := by decide +kernel
theorem dX4_lostIn_68 : decode cX4_lostIn 68 = .ok (.iload 7, 2) := by decide +kernel
theorem dX4_lostIn_70 : decode cX4_lostIn 70 = .ok (.iconst 1, 1) := by decide +kernel
theorem dX4_lostIn_71 : decode cX4_lostIn 71 = .ok (.if_icmp .ge 5, 3) := by decide +kernel
theorem dX4_lostIn_74 : decode cX4_lostIn 74 = .ok (.iconst (-1), 1) := by decide +kernel
theorem dX4_lostIn_75 : decode cX4_lostIn 75 = .ok (.ireturn, 1) := by decide +kernel
theorem dX4_lostIn_76 : decode cX4_lostIn 76 = .ok (.aload_n 0, 1) := by decide +kernel
theorem dX4_lostIn_77 : decode cX4_lostIn 77 = .ok (.iload_n 1, 1) := by decide +kernel
theorem dX4_lostIn_78 : decode cX4_lostIn 78 = .ok (.iload_n 2, 1) := by decide +kernel
theorem dX4_lostIn_79 : decode cX4_lostIn 79 = .ok (.iload 6, 2) := by decide +kernel
theorem dX4_lostIn_81 : decode cX4_lostIn 81 = .ok (.invokevirtual 44, 3) := by decide +kernel
theorem dX4_lostIn_84 : decode cX4_lostIn 84 = .ok (.aload_n 0, 1) := by decide +kernel
theorem dX4_lostIn_85 : decode cX4_lostIn 85 = .ok (.iload_n 1, 1) := by decide +kernel
theorem dX4_lostIn_86 : decode cX4_lostIn 86 = .ok (.iload_n 2, 1) := by decide +kernel
theorem dX4_lostIn_87 : decode cX4_lostIn 87 = .ok (.iload 5, 2) := by decide +kernel
theorem dX4_lostIn_89 : decode cX4_lostIn 89 = .ok (.invokevirtual 44, 3) := by decide +kernel
theorem dX4_lostIn_92 : decode cX4_lostIn 92 = .ok (.isub, 1) := by decide +kernel
theorem dX4_lostIn_93 : decode cX4_lostIn 93 = .ok (.aload_n 0, 1) := by decide +kernel
theorem dX4_lostIn_94 : decode cX4_lostIn 94 = .ok (.iload_n 1, 1) := by decide +kernel
theorem dX4_lostIn_95 : decode cX4_lostIn 95 = .ok (.iload_n 2, 1) := by decide +kernel
theorem dX4_lostIn_96 : decode cX4_lostIn 96 = .ok (.iload 5, 2) := by decide +kernel
theorem dX4_lostIn_98 : decode cX4_lostIn 98 = .ok (.iload 6, 2) := by decide +kernel
theorem dX4_lostIn_100 : decode cX4_lostIn 100 = .ok (.invokevirtual 54, 3) := by decide +kernel
theorem dX4_lostIn_103 : decode cX4_lostIn 103 = .ok (.isub, 1) := by decide +kernel
theorem dX4_lostIn_104 : decode cX4_lostIn 104 = .ok (.istore 8, 2) := by decide +kernel
theorem dX4_lostIn_106 : decode cX4_lostIn 106 = .ok (.iload 8, 2) := by decide +kernel
theorem dX4_lostIn_108 : decode cX4_lostIn 108 = .ok (.iload 7, 2) := by decide +kernel
theorem dX4_lostIn_110 : decode cX4_lostIn 110 = .ok (.idiv, 1) := by decide +kernel
theorem dX4_lostIn_111 : decode cX4_lostIn 111 = .ok (.iload_n 3, 1) := by decide +kernel
theorem dX4_lostIn_112 : decode cX4_lostIn 112 = .ok (.iload 5, 2) := by decide +kernel
theorem dX4_lostIn_114 : decode cX4_lostIn 114 = .ok (.isub, 1) := by decide +kernel
theorem dX4_lostIn_115 : decode cX4_lostIn 115 = .ok (.iload 8, 2) := by decide +kernel
theorem dX4_lostIn_117 : decode cX4_lostIn 117 = .ok (.iload 7, 2) := by decide +kernel
theorem dX4_lostIn_119 : decode cX4_lostIn 119 = .ok (.irem, 1) := by decide +kernel
theorem dX4_lostIn_120 : decode cX4_lostIn 120 = .ok (.if_icmp .ge 7, 3) := by decide +kernel
theorem dX4_lostIn_123 : decode cX4_lostIn 123 = .ok (.iconst 1, 1) := by decide +kernel
theorem dX4_lostIn_124 : decode cX4_lostIn 124 = .ok (.goto 4, 3) := by decide +kernel
theorem dX4_lostIn_127 : decode cX4_lostIn 127 = .ok (.iconst 0, 1) := by decide +kernel
theorem dX4_lostIn_128 : decode cX4_lostIn 128 = .ok (.iadd, 1) := by decide +kernel
theorem dX4_lostIn_129 : decode cX4_lostIn 129 = .ok (.ireturn, 1) := by decide +kernel
theorem dX4_leastBetween_0 : decode cX4_leastBetween 0 = .ok (.aload_n 0, 1) := by decide +kernel
theorem dX4_leastBetween_1 : decode cX4_leastBetween 1 = .ok (.iload_n 1, 1) := by decide +kernel
theorem dX4_leastBetween_2 : decode cX4_leastBetween 2 = .ok (.iload_n 2, 1) := by decide +kernel
theorem dX4_leastBetween_3 : decode cX4_leastBetween 3 = .ok (.iload 4, 2) := by decide +kernel
theorem dX4_leastBetween_5 : decode cX4_leastBetween 5 = .ok (.invokevirtual 44, 3) := by decide +kernel
theorem dX4_leastBetween_8 : decode cX4_leastBetween 8 = .ok (.aload_n 0, 1) := by decide +kernel
theorem dX4_leastBetween_9 : decode cX4_leastBetween 9 = .ok (.iload_n 1, 1) := by decide +kernel
theorem dX4_leastBetween_10 : decode cX4_leastBetween 10 = .ok (.iload_n 2, 1) := by decide +kernel
theorem dX4_leastBetween_11 : decode cX4_leastBetween 11 = .ok (.iload_n 3, 1) := by decide +kernel
theorem dX4_leastBetween_12 : decode cX4_leastBetween 12 = .ok (.invokevirtual 44, 3) := by decide +kernel
theorem dX4_leastBetween_15 : decode cX4_leastBetween 15 = .ok (.isub, 1) := by decide +kernel
theorem dX4_leastBetween_16 : decode cX4_leastBetween 16 = .ok (.istore 5, 2) := by decide +kernel
theorem dX4_leastBetween_18 : decode cX4_leastBetween 18 = .ok (.iconst 0, 1) := by decide +kernel
theorem dX4_leastBetween_19 : decode cX4_leastBetween 19 = .ok (.istore 6, 2) := by decide +kernel
theorem dX4_leastBetween_21 : decode cX4_leastBetween 21 = .ok (.iload 6, 2) := by decide +kernel
theorem dX4_leastBetween_23 : decode cX4_leastBetween 23 = .ok (.bipush 16, 2) := by decide +kernel
theorem dX4_leastBetween_25 : decode cX4_leastBetween 25 = .ok (.if_icmp .ge 67, 3) := by decide +kernel
theorem dX4_leastBetween_28 : decode cX4_leastBetween 28 = .ok (.aload_n 0, 1) := by decide +kernel
theorem dX4_leastBetween_29 : decode cX4_leastBetween 29 = .ok (.iload_n 1, 1) := by decide +kernel
theorem dX4_leastBetween_30 : decode cX4_leastBetween 30 = .ok (.iload 6, 2) := by decide +kernel
theorem dX4_leastBetween_32 : decode cX4_leastBetween 32 = .ok (.invokevirtual 50, 3) := by decide +kernel
theorem dX4_leastBetween_35 : decode cX4_leastBetween 35 = .ok (.ifCond .eq 51, 3) := by decide +kernel
theorem dX4_leastBetween_38 : decode cX4_leastBetween 38 = .ok (.aload_n 0, 1) := by decide +kernel
theorem dX4_leastBetween_39 : decode cX4_leastBetween 39 = .ok (.iload_n 1, 1) := by decide +kernel
theorem dX4_leastBetween_40 : decode cX4_leastBetween 40 = .ok (.iload 6, 2) := by decide +kernel
theorem dX4_leastBetween_42 : decode cX4_leastBetween 42 = .ok (.iload_n 3, 1) := by decide +kernel
theorem dX4_leastBetween_43 : decode cX4_leastBetween 43 = .ok (.invokevirtual 40, 3) := by decide +kernel
theorem dX4_leastBetween_46 : decode cX4_leastBetween 46 = .ok (.ifCond .eq 40, 3) := by decide +kernel
theorem dX4_leastBetween_49 : decode cX4_leastBetween 49 = .ok (.aload_n 0, 1) := by decide +kernel
theorem dX4_leastBetween_50 : decode cX4_leastBetween 50 = .ok (.iload_n 1, 1) := by decide +kernel
theorem dX4_leastBetween_51 : decode cX4_leastBetween 51 = .ok (.iload 6, 2) := by decide +kernel
theorem dX4_leastBetween_53 : decode cX4_leastBetween 53 = .ok (.iload 4, 2) := by decide +kernel
theorem dX4_leastBetween_55 : decode cX4_leastBetween 55 = .ok (.invokevirtual 40, 3) := by decide +kernel
theorem dX4_leastBetween_58 : decode cX4_leastBetween 58 = .ok (.ifCond .eq 28, 3) := by decide +kernel
theorem dX4_leastBetween_61 : decode cX4_leastBetween 61 = .ok (.iload 5, 2) := by decide +kernel
theorem dX4_leastBetween_63 : decode cX4_leastBetween 63 = .ok (.aload_n 0, 1) := by decide +kernel
theorem dX4_leastBetween_64 : decode cX4_leastBetween 64 = .ok (.iload_n 1, 1) := by decide +kernel
theorem dX4_leastBetween_65 : decode cX4_leastBetween 65 = .ok (.iload 6, 2) := by decide +kernel
theorem dX4_leastBetween_67 : decode cX4_leastBetween 67 = .ok (.iload 4, 2) := by decide +kernel
theorem dX4_leastBetween_69 : decode cX4_leastBetween 69 = .ok (.invokevirtual 44, 3) := by decide +kernel
theorem dX4_leastBetween_72 : decode cX4_leastBetween 72 = .ok (.aload_n 0, 1) := by decide +kernel
theorem dX4_leastBetween_73 : decode cX4_leastBetween 73 = .ok (.iload_n 1, 1) := by decide +kernel
theorem dX4_leastBetween_74 : decode cX4_leastBetween 74 = .ok (.iload 6, 2) := by decide +kernel
theorem dX4_leastBetween_76 : decode cX4_leastBetween 76 = .ok (.iload_n 3, 1) := by decide +kernel
theorem dX4_leastBetween_77 : decode cX4_leastBetween 77 = .ok (.invokevirtual 44, 3) := by decide +kernel
theorem dX4_leastBetween_80 : decode cX4_leastBetween 80 = .ok (.isub, 1) := by decide +kernel
theorem dX4_leastBetween_81 : decode cX4_leastBetween 81 = .ok (.invokestatic 58, 3) := by decide +kernel
theorem dX4_leastBetween_84 : decode cX4_leastBetween 84 = .ok (.istore 5, 2) := by decide +kernel
theorem dX4_leastBetween_86 : decode cX4_leastBetween 86 = .ok (.iinc 6 1, 3) := by decide +kernel
theorem dX4_leastBetween_89 : decode cX4_leastBetween 89 = .ok (.goto (-68), 3) := by decide +kernel
theorem dX4_leastBetween_92 : decode cX4_leastBetween 92 = .ok (.iload 5, 2) := by decide +kernel
theorem dX4_leastBetween_94 : decode cX4_leastBetween 94 = .ok (.ireturn, 1) := by decide +kernel
theorem dX4_isTimed_0 : decode cX4_isTimed 0 = .ok (.aload_n 0, 1) := by decide +kernel
theorem dX4_isTimed_1 : decode cX4_isTimed 1 = .ok (.iload_n 1, 1) := by decide +kernel
theorem dX4_isTimed_2 : decode cX4_isTimed 2 = .ok (.iload_n 2, 1) := by decide +kernel
theorem dX4_isTimed_3 : decode cX4_isTimed 3 = .ok (.iload_n 3, 1) := by decide +kernel
theorem dX4_isTimed_4 : decode cX4_isTimed 4 = .ok (.invokevirtual 44, 3) := by decide +kernel
theorem dX4_isTimed_7 : decode cX4_isTimed 7 = .ok (.ldc 63, 2) := by decide +kernel
theorem dX4_isTimed_9 : decode cX4_isTimed 9 = .ok (.if_icmp .eq 7, 3) := by decide +kernel
theorem dX4_isTimed_12 : decode cX4_isTimed 12 = .ok (.iconst 1, 1) := by decide +kernel
theorem dX4_isTimed_13 : decode cX4_isTimed 13 = .ok (.goto 4, 3) := by decide +kernel
theorem dX4_isTimed_16 : decode cX4_isTimed 16 = .ok (.iconst 0, 1) := by decide +kernel
theorem dX4_isTimed_17 : decode cX4_isTimed 17 = .ok (.ireturn, 1) := by decide +kernel
theorem dX5_init_0 : decode cX5_init 0 = .ok (.aload_n 0, 1) := by decide +kernel
theorem dX5_init_1 : decode cX5_init 1 = .ok (.invokespecial 3, 3) := by decide +kernel
theorem dX5_init_4 : decode cX5_init 4 = .ok (.aload_n 0, 1) := by decide +kernel
theorem dX5_init_5 : decode cX5_init 5 = .ok (.iconst 0, 1) := by decide +kernel
theorem dX5_init_6 : decode cX5_init 6 = .ok (.putfield 9, 3) := by decide +kernel
theorem dX5_init_9 : decode cX5_init 9 = .ok (.aload_n 0, 1) := by decide +kernel
theorem dX5_init_10 : decode cX5_init 10 = .ok (.bipush 16, 2) := by decide +kernel
theorem dX5_init_12 : decode cX5_init 12 = .ok (.newarray .int, 2) := by decide +kernel
theorem dX5_init_14 : decode cX5_init 14 = .ok (.putfield 15, 3) := by decide +kernel
theorem dX5_init_17 : decode cX5_init 17 = .ok (.aload_n 0, 1) := by decide +kernel
theorem dX5_init_18 : decode cX5_init 18 = .ok (.bipush 16, 2) := by decide +kernel
theorem dX5_init_20 : decode cX5_init 20 = .ok (.newarray .int, 2) := by decide +kernel
theorem dX5_init_22 : decode cX5_init 22 = .ok (.putfield 19, 3) := by decide +kernel
theorem dX5_init_25 : decode cX5_init 25 = .ok (.aload_n 0, 1) := by decide +kernel
theorem dX5_init_26 : decode cX5_init 26 = .ok (.bipush 16, 2) := by decide +kernel
theorem dX5_init_28 : decode cX5_init 28 = .ok (.newarray .int, 2) := by decide +kernel
theorem dX5_init_30 : decode cX5_init 30 = .ok (.putfield 22, 3) := by decide +kernel
theorem dX5_init_33 : decode cX5_init 33 = .ok (.aload_n 0, 1) := by decide +kernel
theorem dX5_init_34 : decode cX5_init 34 = .ok (.bipush 16, 2) := by decide +kernel
theorem dX5_init_36 : decode cX5_init 36 = .ok (.newarray .int, 2) := by decide +kernel
theorem dX5_init_38 : decode cX5_init 38 = .ok (.putfield 25, 3) := by decide +kernel
theorem dX5_init_41 : decode cX5_init 41 = .ok (.aload_n 0, 1) := by decide +kernel
theorem dX5_init_42 : decode cX5_init 42 = .ok (.bipush 16, 2) := by decide +kernel
theorem dX5_init_44 : decode cX5_init 44 = .ok (.newarray .int, 2) := by decide +kernel
theorem dX5_init_46 : decode cX5_init 46 = .ok (.putfield 28, 3) := by decide +kernel
theorem dX5_init_49 : decode cX5_init 49 = .ok (.return_, 1) := by decide +kernel
theorem dX5_add_0 : decode cX5_add 0 = .ok (.aload_n 0, 1) := by decide +kernel
theorem dX5_add_1 : decode cX5_add 1 = .ok (.getfield 9, 3) := by decide +kernel
theorem dX5_add_4 : decode cX5_add 4 = .ok (.istore 5, 2) := by decide +kernel
theorem dX5_add_6 : decode cX5_add 6 = .ok (.aload_n 0, 1) := by decide +kernel
theorem dX5_add_7 : decode cX5_add 7 = .ok (.getfield 15, 3) := by decide +kernel
theorem dX5_add_10 : decode cX5_add 10 = .ok (.iload 5, 2) := by decide +kernel
theorem dX5_add_12 : decode cX5_add 12 = .ok (.iload_n 1, 1) := by decide +kernel
theorem dX5_add_13 : decode cX5_add 13 = .ok (.iastore, 1) := by decide +kernel
theorem dX5_add_14 : decode cX5_add 14 = .ok (.aload_n 0, 1) := by decide +kernel
theorem dX5_add_15 : decode cX5_add 15 = .ok (.getfield 19, 3) := by decide +kernel
theorem dX5_add_18 : decode cX5_add 18 = .ok (.iload 5, 2) := by decide +kernel
theorem dX5_add_20 : decode cX5_add 20 = .ok (.iload_n 2, 1) := by decide +kernel
theorem dX5_add_21 : decode cX5_add 21 = .ok (.iastore, 1) := by decide +kernel
theorem dX5_add_22 : decode cX5_add 22 = .ok (.aload_n 0, 1) := by decide +kernel
theorem dX5_add_23 : decode cX5_add 23 = .ok (.getfield 22, 3) := by decide +kernel
theorem dX5_add_26 : decode cX5_add 26 = .ok (.iload 5, 2) := by decide +kernel
theorem dX5_add_28 : decode cX5_add 28 = .ok (.iload_n 3, 1) := by decide +kernel
theorem dX5_add_29 : decode cX5_add 29 = .ok (.iastore, 1) := by decide +kernel
theorem dX5_add_30 : decode cX5_add 30 = .ok (.aload_n 0, 1) := by decide +kernel
theorem dX5_add_31 : decode cX5_add 31 = .ok (.getfield 25, 3) := by decide +kernel
theorem dX5_add_34 : decode cX5_add 34 = .ok (.iload 5, 2) := by decide +kernel
theorem dX5_add_36 : decode cX5_add 36 = .ok (.iload 4, 2) := by decide +kernel
theorem dX5_add_38 : decode cX5_add 38 = .ok (.iastore, 1) := by decide +kernel
theorem dX5_add_39 : decode cX5_add 39 = .ok (.aload_n 0, 1) := by decide +kernel
theorem dX5_add_40 : decode cX5_add 40 = .ok (.dup, 1) := by decide +kernel
theorem dX5_add_41 : decode cX5_add 41 = .ok (.getfield 9, 3) := by decide +kernel
theorem dX5_add_44 : decode cX5_add 44 = .ok (.iconst 1, 1) := by decide +kernel
theorem dX5_add_45 : decode cX5_add 45 = .ok (.iadd, 1) := by decide +kernel
theorem dX5_add_46 : decode cX5_add 46 = .ok (.putfield 9, 3) := by decide +kernel
theorem dX5_add_49 : decode cX5_add 49 = .ok (.iload 5, 2) := by decide +kernel
theorem dX5_add_51 : decode cX5_add 51 = .ok (.ireturn, 1) := by decide +kernel
theorem dX5_has_0 : decode cX5_has 0 = .ok (.iload_n 1, 1) := by decide +kernel
theorem dX5_has_1 : decode cX5_has 1 = .ok (.iconst 0, 1) := by decide +kernel
theorem dX5_has_2 : decode cX5_has 2 = .ok (.aload_n 0, 1) := by decide +kernel
theorem dX5_has_3 : decode cX5_has 3 = .ok (.getfield 9, 3) := by decide +kernel
theorem dX5_has_6 : decode cX5_has 6 = .ok (.iconst 1, 1) := by decide +kernel
theorem dX5_has_7 : decode cX5_has 7 = .ok (.isub, 1) := by decide +kernel
theorem dX5_has_8 : decode cX5_has 8 = .ok (.invokestatic 31, 3) := by decide +kernel
theorem dX5_has_11 : decode cX5_has 11 = .ok (.ireturn, 1) := by decide +kernel
theorem dX5_listUpTo_0 : decode cX5_listUpTo 0 = .ok (.iconst 0, 1) := by decide +kernel
theorem dX5_listUpTo_1 : decode cX5_listUpTo 1 = .ok (.istore_n 3, 1) := by decide +kernel
theorem dX5_listUpTo_2 : decode cX5_listUpTo 2 = .ok (.iconst 0, 1) := by decide +kernel
theorem dX5_listUpTo_3 : decode cX5_listUpTo 3 = .ok (.istore 4, 2) := by decide +kernel
theorem dX5_listUpTo_5 : decode cX5_listUpTo 5 = .ok (.iload 4, 2) := by decide +kernel
theorem dX5_listUpTo_7 : decode cX5_listUpTo 7 = .ok (.aload_n 0, 1) := by decide +kernel
theorem dX5_listUpTo_8 : decode cX5_listUpTo 8 = .ok (.getfield 9, 3) := by decide +kernel
theorem dX5_listUpTo_11 : decode cX5_listUpTo 11 = .ok (.if_icmp .ge 28, 3) := by decide +kernel
theorem dX5_listUpTo_14 : decode cX5_listUpTo 14 = .ok (.aload_n 0, 1) := by decide +kernel
theorem dX5_listUpTo_15 : decode cX5_listUpTo 15 = .ok (.getfield 19, 3) := by decide +kernel
theorem dX5_listUpTo_18 : decode cX5_listUpTo 18 = .ok (.iload 4, 2) := by decide +kernel
theorem dX5_listUpTo_20 : decode cX5_listUpTo 20 = .ok (.iaload, 1) := by decide +kernel
theorem dX5_listUpTo_21 : decode cX5_listUpTo 21 = .ok (.iload_n 1, 1) := by decide +kernel
theorem dX5_listUpTo_22 : decode cX5_listUpTo 22 = .ok (.if_icmp .gt 11, 3) := by decide +kernel
theorem dX5_listUpTo_25 : decode cX5_listUpTo 25 = .ok (.aload_n 2, 1) := by decide +kernel
theorem dX5_listUpTo_26 : decode cX5_listUpTo 26 = .ok (.iload_n 3, 1) := by decide +kernel
theorem dX5_listUpTo_27 : decode cX5_listUpTo 27 = .ok (.iload 4, 2) := by decide +kernel
theorem dX5_listUpTo_29 : decode cX5_listUpTo 29 = .ok (.iastore, 1) := by decide +kernel
theorem dX5_listUpTo_30 : decode cX5_listUpTo 30 = .ok (.iinc 3 1, 3) := by decide +kernel
theorem dX5_listUpTo_33 : decode cX5_listUpTo 33 = .ok (.iinc 4 1, 3) := by decide +kernel
theorem dX5_listUpTo_36 : decode cX5_listUpTo 36 = .ok (.goto (-31), 3) := by decide +kernel
theorem dX5_listUpTo_39 : decode cX5_listUpTo 39 = .ok (.iload_n 3, 1) := by decide +kernel
theorem dX5_listUpTo_40 : decode cX5_listUpTo 40 = .ok (.ireturn, 1) := by decide +kernel
theorem dX5_pointsOfTeam_0 : decode cX5_pointsOfTeam 0 = .ok (.iconst 0, 1) := by decide +kernel
theorem dX5_pointsOfTeam_1 : decode cX5_pointsOfTeam 1 = .ok (.istore_n 2, 1) := by decide +kernel
theorem dX5_pointsOfTeam_2 : decode cX5_pointsOfTeam 2 = .ok (.iconst 0, 1) := by decide +kernel
theorem dX5_pointsOfTeam_3 : decode cX5_pointsOfTeam 3 = .ok (.istore_n 3, 1) := by decide +kernel
theorem dX5_pointsOfTeam_4 : decode cX5_pointsOfTeam 4 = .ok (.iload_n 3, 1) := by decide +kernel
theorem dX5_pointsOfTeam_5 : decode cX5_pointsOfTeam 5 = .ok (.aload_n 0, 1) := by decide +kernel
theorem dX5_pointsOfTeam_6 : decode cX5_pointsOfTeam 6 = .ok (.getfield 9, 3) := by decide +kernel
theorem dX5_pointsOfTeam_9 : decode cX5_pointsOfTeam 9 = .ok (.if_icmp .ge 28, 3) := by decide +kernel
theorem dX5_pointsOfTeam_12 : decode cX5_pointsOfTeam 12 = .ok (.aload_n 0, 1) := by decide +kernel
theorem dX5_pointsOfTeam_13 : decode cX5_pointsOfTeam 13 = .ok (.getfield 15, 3) := by decide +kernel
theorem dX5_pointsOfTeam_16 : decode cX5_pointsOfTeam 16 = .ok (.iload_n 3, 1) := by decide +kernel
theorem dX5_pointsOfTeam_17 : decode cX5_pointsOfTeam 17 = .ok (.iaload, 1) := by decide +kernel
theorem dX5_pointsOfTeam_18 : decode cX5_pointsOfTeam 18 = .ok (.iload_n 1, 1) := by decide +kernel
theorem dX5_pointsOfTeam_19 : decode cX5_pointsOfTeam 19 = .ok (.if_icmp .ne 12, 3) := by decide +kernel
theorem dX5_pointsOfTeam_22 : decode cX5_pointsOfTeam 22 = .ok (.iload_n 2, 1) := by decide +kernel
theorem dX5_pointsOfTeam_23 : decode cX5_pointsOfTeam 23 = .ok (.aload_n 0, 1) := by decide +kernel
theorem dX5_pointsOfTeam_24 : decode cX5_pointsOfTeam 24 = .ok (.getfield 28, 3) := by decide +kernel
theorem dX5_pointsOfTeam_27 : decode cX5_pointsOfTeam 27 = .ok (.iload_n 3, 1) := by decide +kernel
theorem dX5_pointsOfTeam_28 : decode cX5_pointsOfTeam 28 = .ok (.iaload, 1) := by decide +kernel
theorem dX5_pointsOfTeam_29 : decode cX5_pointsOfTeam 29 = .ok (.iadd, 1) := by decide +kernel
theorem dX5_pointsOfTeam_30 : decode cX5_pointsOfTeam 30 = .ok (.istore_n 2, 1) := by decide +kernel
theorem dX5_pointsOfTeam_31 : decode cX5_pointsOfTeam 31 = .ok (.iinc 3 1, 3) := by decide +kernel
theorem dX5_pointsOfTeam_34 : decode cX5_pointsOfTeam 34 = .ok (.goto (-30), 3) := by decide +kernel
theorem dX5_pointsOfTeam_37 : decode cX5_pointsOfTeam 37 = .ok (.iload_n 2, 1) := by decide +kernel
theorem dX5_pointsOfTeam_38 : decode cX5_pointsOfTeam 38 = .ok (.ireturn, 1) := by decide +kernel
theorem dX6_init_0 : decode cX6_init 0 = .ok (.aload_n 0, 1) := by decide +kernel
theorem dX6_init_1 : decode cX6_init 1 = .ok (.invokespecial 3, 3) := by decide +kernel
theorem dX6_init_4 : decode cX6_init 4 = .ok (.aload_n 0, 1) := by decide +kernel
theorem dX6_init_5 : decode cX6_init 5 = .ok (.bipush 16, 2) := by decide +kernel
theorem dX6_init_7 : decode cX6_init 7 = .ok (.newarray .boolean, 2) := by decide +kernel
theorem dX6_init_9 : decode cX6_init 9 = .ok (.putfield 9, 3) := by decide +kernel
theorem dX6_init_12 : decode cX6_init 12 = .ok (.aload_n 0, 1) := by decide +kernel
theorem dX6_init_13 : decode cX6_init 13 = .ok (.bipush 16, 2) := by decide +kernel
theorem dX6_init_15 : decode cX6_init 15 = .ok (.newarray .int, 2) := by decide +kernel
theorem dX6_init_17 : decode cX6_init 17 = .ok (.putfield 15, 3) := by decide +kernel
theorem dX6_init_20 : decode cX6_init 20 = .ok (.aload_n 0, 1) := by decide +kernel
theorem dX6_init_21 : decode cX6_init 21 = .ok (.bipush 16, 2) := by decide +kernel
theorem dX6_init_23 : decode cX6_init 23 = .ok (.newarray .int, 2) := by decide +kernel
theorem dX6_init_25 : decode cX6_init 25 = .ok (.putfield 19, 3) := by decide +kernel
theorem dX6_init_28 : decode cX6_init 28 = .ok (.return_, 1) := by decide +kernel
theorem dX6_recall_0 : decode cX6_recall 0 = .ok (.iconst 0, 1) := by decide +kernel
theorem dX6_recall_1 : decode cX6_recall 1 = .ok (.istore_n 3, 1) := by decide +kernel
theorem dX6_recall_2 : decode cX6_recall 2 = .ok (.iload_n 3, 1) := by decide +kernel
theorem dX6_recall_3 : decode cX6_recall 3 = .ok (.bipush 16, 2) := by decide +kernel
theorem dX6_recall_5 : decode cX6_recall 5 = .ok (.if_icmp .ge 16, 3) := by decide +kernel
theorem dX6_recall_8 : decode cX6_recall 8 = .ok (.aload_n 0, 1) := by decide +kernel
theorem dX6_recall_9 : decode cX6_recall 9 = .ok (.aload_n 1, 1) := by decide +kernel
theorem dX6_recall_10 : decode cX6_recall 10 = .ok (.iload_n 3, 1) := by decide +kernel
theorem dX6_recall_11 : decode cX6_recall 11 = .ok (.iload_n 2, 1) := by decide +kernel
theorem dX6_recall_12 : decode cX6_recall 12 = .ok (.invokevirtual 22, 3) := by decide +kernel
theorem dX6_recall_15 : decode cX6_recall 15 = .ok (.iinc 3 1, 3) := by decide +kernel
theorem dX6_recall_18 : decode cX6_recall 18 = .ok (.goto (-16), 3) := by decide +kernel
theorem dX6_recall_21 : decode cX6_recall 21 = .ok (.iconst 0, 1) := by decide +kernel
theorem dX6_recall_22 : decode cX6_recall 22 = .ok (.istore_n 3, 1) := by decide +kernel
theorem dX6_recall_23 : decode cX6_recall 23 = .ok (.iload_n 3, 1) := by decide +kernel
theorem dX6_recall_24 : decode cX6_recall 24 = .ok (.bipush 16, 2) := by decide +kernel
theorem dX6_recall_26 : decode cX6_recall 26 = .ok (.if_icmp .ge 40, 3) := by decide +kernel
theorem dX6_recall_29 : decode cX6_recall 29 = .ok (.aload_n 0, 1) := by decide +kernel
theorem dX6_recall_30 : decode cX6_recall 30 = .ok (.getfield 19, 3) := by decide +kernel
theorem dX6_recall_33 : decode cX6_recall 33 = .ok (.iload_n 3, 1) := by decide +kernel
theorem dX6_recall_34 : decode cX6_recall 34 = .ok (.aload_n 0, 1) := by decide +kernel
theorem dX6_recall_35 : decode cX6_recall 35 = .ok (.getfield 9, 3) := by decide +kernel
theorem dX6_recall_38 : decode cX6_recall 38 = .ok (.iload_n 3, 1) := by decide +kernel
theorem dX6_recall_39 : decode cX6_recall 39 = .ok (.baload, 1) := by decide +kernel
theorem dX6_recall_40 : decode cX6_recall 40 = .ok (.ifCond .eq 18, 3) := by decide +kernel
theorem dX6_recall_43 : decode cX6_recall 43 = .ok (.iconst 1, 1) := by decide +kernel
theorem dX6_recall_44 : decode cX6_recall 44 = .ok (.aload_n 0, 1) := by decide +kernel
theorem dX6_recall_45 : decode cX6_recall 45 = .ok (.aload_n 0, 1) := by decide +kernel
theorem dX6_recall_46 : decode cX6_recall 46 = .ok (.getfield 15, 3) := by decide +kernel
theorem dX6_recall_49 : decode cX6_recall 49 = .ok (.iload_n 3, 1) := by decide +kernel
theorem dX6_recall_50 : decode cX6_recall 50 = .ok (.iaload, 1) := by decide +kernel
theorem dX6_recall_51 : decode cX6_recall 51 = .ok (.invokevirtual 26, 3) := by decide +kernel
theorem dX6_recall_54 : decode cX6_recall 54 = .ok (.iadd, 1) := by decide +kernel
theorem dX6_recall_55 : decode cX6_recall 55 = .ok (.goto 4, 3) := by decide +kernel
theorem dX6_recall_58 : decode cX6_recall 58 = .ok (.iconst (-1), 1) := by decide +kernel
theorem dX6_recall_59 : decode cX6_recall 59 = .ok (.iastore, 1) := by decide +kernel
theorem dX6_recall_60 : decode cX6_recall 60 = .ok (.iinc 3 1, 3) := by decide +kernel
theorem dX6_recall_63 : decode cX6_recall 63 = .ok (.goto (-40), 3) := by decide +kernel
theorem dX6_recall_66 : decode cX6_recall 66 = .ok (.return_, 1) := by decide +kernel
theorem dX6_recallSum_0 : decode cX6_recallSum 0 = .ok (.iconst 0, 1) := by decide +kernel
theorem dX6_recallSum_1 : decode cX6_recallSum 1 = .ok (.istore 4, 2) := by decide +kernel
theorem dX6_recallSum_3 : decode cX6_recallSum 3 = .ok (.iconst 0, 1) := by decide +kernel
theorem dX6_recallSum_4 : decode cX6_recallSum 4 = .ok (.istore 5, 2) := by decide +kernel
theorem dX6_recallSum_6 : decode cX6_recallSum 6 = .ok (.iconst 0, 1) := by decide +kernel
theorem dX6_recallSum_7 : decode cX6_recallSum 7 = .ok (.istore 6, 2) := by decide +kernel
theorem dX6_recallSum_9 : decode cX6_recallSum 9 = .ok (.iconst 0, 1) := by decide +kernel
theorem dX6_recallSum_10 : decode cX6_recallSum 10 = .ok (.istore 7, 2) := by decide +kernel
theorem dX6_recallSum_12 : decode cX6_recallSum 12 = .ok (.iload 7, 2) := by decide +kernel
theorem dX6_recallSum_14 : decode cX6_recallSum 14 = .ok (.iconst 4, 1) := by decide +kernel
theorem dX6_recallSum_15 : decode cX6_recallSum 15 = .ok (.if_icmp .ge 53, 3) := by decide +kernel
theorem dX6_recallSum_18 : decode cX6_recallSum 18 = .ok (.aload_n 1, 1) := by decide +kernel
theorem dX6_recallSum_19 : decode cX6_recallSum 19 = .ok (.iload 7, 2) := by decide +kernel
theorem dX6_recallSum_21 : decode cX6_recallSum 21 = .ok (.iload_n 3, 1) := by decide +kernel
theorem dX6_recallSum_22 : decode cX6_recallSum 22 = .ok (.invokevirtual 30, 3) := by decide +kernel
theorem dX6_recallSum_25 : decode cX6_recallSum 25 = .ok (.ifCond .eq 37, 3) := by decide +kernel
theorem dX6_recallSum_28 : decode cX6_recallSum 28 = .ok (.iinc 4 1, 3) := by decide +kernel
theorem dX6_recallSum_31 : decode cX6_recallSum 31 = .ok (.aload_n 1, 1) := by decide +kernel
theorem dX6_recallSum_32 : decode cX6_recallSum 32 = .ok (.getfield 36, 3) := by decide +kernel
theorem dX6_recallSum_35 : decode cX6_recallSum 35 = .ok (.iload 7, 2) := by decide +kernel
theorem dX6_recallSum_37 : decode cX6_recallSum 37 = .ok (.iload_n 2, 1) := by decide +kernel
theorem dX6_recallSum_38 : decode cX6_recallSum 38 = .ok (.invokevirtual 40, 3) := by decide +kernel
theorem dX6_recallSum_41 : decode cX6_recallSum 41 = .ok (.ifCond .eq 21, 3) := by decide +kernel
theorem dX6_recallSum_44 : decode cX6_recallSum 44 = .ok (.iinc 5 1, 3) := by decide +kernel
theorem dX6_recallSum_47 : decode cX6_recallSum 47 = .ok (.iload 6, 2) := by decide +kernel
theorem dX6_recallSum_49 : decode cX6_recallSum 49 = .ok (.aload_n 1, 1) := by decide +kernel
theorem dX6_recallSum_50 : decode cX6_recallSum 50 = .ok (.getfield 36, 3) := by decide +kernel
theorem dX6_recallSum_53 : decode cX6_recallSum 53 = .ok (.iload 7, 2) := by decide +kernel
theorem dX6_recallSum_55 : decode cX6_recallSum 55 = .ok (.iload_n 2, 1) := by decide +kernel
theorem dX6_recallSum_56 : decode cX6_recallSum 56 = .ok (.invokevirtual 45, 3) := by decide +kernel
theorem dX6_recallSum_59 : decode cX6_recallSum 59 = .ok (.iadd, 1) := by decide +kernel
theorem dX6_recallSum_60 : decode cX6_recallSum 60 = .ok (.istore 6, 2) := by decide +kernel
theorem dX6_recallSum_62 : decode cX6_recallSum 62 = .ok (.iinc 7 1, 3) := by decide +kernel
theorem dX6_recallSum_65 : decode cX6_recallSum 65 = .ok (.goto (-53), 3) := by decide +kernel
theorem dX6_recallSum_68 : decode cX6_recallSum 68 = .ok (.aload_n 0, 1) := by decide +kernel
theorem dX6_recallSum_69 : decode cX6_recallSum 69 = .ok (.getfield 15, 3) := by decide +kernel
theorem dX6_recallSum_72 : decode cX6_recallSum 72 = .ok (.iload_n 2, 1) := by decide +kernel
theorem dX6_recallSum_73 : decode cX6_recallSum 73 = .ok (.iload 6, 2) := by decide +kernel
theorem dX6_recallSum_75 : decode cX6_recallSum 75 = .ok (.iastore, 1) := by decide +kernel
theorem dX6_recallSum_76 : decode cX6_recallSum 76 = .ok (.aload_n 0, 1) := by decide +kernel
theorem dX6_recallSum_77 : decode cX6_recallSum 77 = .ok (.getfield 9, 3) := by decide +kernel
theorem dX6_recallSum_80 : decode cX6_recallSum 80 = .ok (.iload_n 2, 1) := by decide +kernel
theorem dX6_recallSum_81 : decode cX6_recallSum 81 = .ok (.aload_n 1, 1) := by decide +kernel
theorem dX6_recallSum_82 : decode cX6_recallSum 82 = .ok (.iload_n 2, 1) := by decide +kernel
theorem dX6_recallSum_83 : decode cX6_recallSum 83 = .ok (.iload_n 3, 1) := by decide +kernel
theorem dX6_recallSum_84 : decode cX6_recallSum 84 = .ok (.invokevirtual 49, 3) := by decide +kernel
theorem dX6_recallSum_87 : decode cX6_recallSum 87 = .ok (.ifCond .eq 19, 3) := by decide +kernel
theorem dX6_recallSum_90 : decode cX6_recallSum 90 = .ok (.iload 4, 2) := by decide +kernel
theorem dX6_recallSum_92 : decode cX6_recallSum 92 = .ok (.ifCond .le 14, 3) := by decide +kernel
theorem dX6_recallSum_95 : decode cX6_recallSum 95 = .ok (.iload 5, 2) := by decide +kernel
theorem dX6_recallSum_97 : decode cX6_recallSum 97 = .ok (.iload 4, 2) := by decide +kernel
theorem dX6_recallSum_99 : decode cX6_recallSum 99 = .ok (.if_icmp .ne 7, 3) := by decide +kernel
theorem dX6_recallSum_102 : decode cX6_recallSum 102 = .ok (.iconst 1, 1) := by decide +kernel
theorem dX6_recallSum_103 : decode cX6_recallSum 103 = .ok (.goto 4, 3) := by decide +kernel
theorem dX6_recallSum_106 : decode cX6_recallSum 106 = .ok (.iconst 0, 1) := by decide +kernel
theorem dX6_recallSum_107 : decode cX6_recallSum 107 = .ok (.bastore, 1) := by decide +kernel
theorem dX6_recallSum_108 : decode cX6_recallSum 108 = .ok (.return_, 1) := by decide +kernel
theorem dX6_manyBelow_0 : decode cX6_manyBelow 0 = .ok (.iconst 0, 1) := by decide +kernel
theorem dX6_manyBelow_1 : decode cX6_manyBelow 1 = .ok (.istore_n 2, 1) := by decide +kernel
theorem dX6_manyBelow_2 : decode cX6_manyBelow 2 = .ok (.iconst 0, 1) := by decide +kernel
theorem dX6_manyBelow_3 : decode cX6_manyBelow 3 = .ok (.istore_n 3, 1) := by decide +kernel
theorem dX6_manyBelow_4 : decode cX6_manyBelow 4 = .ok (.iload_n 3, 1) := by decide +kernel
theorem dX6_manyBelow_5 : decode cX6_manyBelow 5 = .ok (.bipush 16, 2) := by decide +kernel
theorem dX6_manyBelow_7 : decode cX6_manyBelow 7 = .ok (.if_icmp .ge 31, 3) := by decide +kernel
theorem dX6_manyBelow_10 : decode cX6_manyBelow 10 = .ok (.aload_n 0, 1) := by decide +kernel
theorem dX6_manyBelow_11 : decode cX6_manyBelow 11 = .ok (.getfield 9, 3) := by decide +kernel
theorem dX6_manyBelow_14 : decode cX6_manyBelow 14 = .ok (.iload_n 3, 1) := by decide +kernel
theorem dX6_manyBelow_15 : decode cX6_manyBelow 15 = .ok (.baload, 1) := by decide +kernel
theorem dX6_manyBelow_16 : decode cX6_manyBelow 16 = .ok (.ifCond .eq 16, 3) := by decide +kernel
theorem dX6_manyBelow_19 : decode cX6_manyBelow 19 = .ok (.aload_n 0, 1) := by decide +kernel
theorem dX6_manyBelow_20 : decode cX6_manyBelow 20 = .ok (.getfield 15, 3) := by decide +kernel
theorem dX6_manyBelow_23 : decode cX6_manyBelow 23 = .ok (.iload_n 3, 1) := by decide +kernel
theorem dX6_manyBelow_24 : decode cX6_manyBelow 24 = .ok (.iaload, 1) := by decide +kernel
theorem dX6_manyBelow_25 : decode cX6_manyBelow 25 = .ok (.iload_n 1, 1) := by decide +kernel
theorem dX6_manyBelow_26 : decode cX6_manyBelow 26 = .ok (.if_icmp .ge 6, 3) := by decide +kernel
theorem dX6_manyBelow_29 : decode cX6_manyBelow 29 = .ok (.iinc 2 1, 3) := by decide +kernel
theorem dX6_manyBelow_32 : decode cX6_manyBelow 32 = .ok (.iinc 3 1, 3) := by decide +kernel
theorem dX6_manyBelow_35 : decode cX6_manyBelow 35 = .ok (.goto (-31), 3) := by decide +kernel
theorem dX6_manyBelow_38 : decode cX6_manyBelow 38 = .ok (.iload_n 2, 1) := by decide +kernel
theorem dX6_manyBelow_39 : decode cX6_manyBelow 39 = .ok (.ireturn, 1) := by decide +kernel
theorem dX6_isRanked_0 : decode cX6_isRanked 0 = .ok (.iload_n 1, 1) := by decide +kernel
theorem dX6_isRanked_1 : decode cX6_isRanked 1 = .ok (.iconst 0, 1) := by decide +kernel
theorem dX6_isRanked_2 : decode cX6_isRanked 2 = .ok (.bipush 15, 2) := by decide +kernel
theorem dX6_isRanked_4 : decode cX6_isRanked 4 = .ok (.invokestatic 52, 3) := by decide +kernel
theorem dX6_isRanked_7 : decode cX6_isRanked 7 = .ok (.ifCond .eq 16, 3) := by decide +kernel
theorem dX6_isRanked_10 : decode cX6_isRanked 10 = .ok (.aload_n 0, 1) := by decide +kernel
theorem dX6_isRanked_11 : decode cX6_isRanked 11 = .ok (.getfield 9, 3) := by decide +kernel
theorem dX6_isRanked_14 : decode cX6_isRanked 14 = .ok (.iload_n 1, 1) := by decide +kernel
theorem dX6_isRanked_15 : decode cX6_isRanked 15 = .ok (.baload, 1) := by decide +kernel
theorem dX6_isRanked_16 : decode cX6_isRanked 16 = .ok (.ifCond .eq 7, 3) := by decide +kernel
theorem dX6_isRanked_19 : decode cX6_isRanked 19 = .ok (.iconst 1, 1) := by decide +kernel
theorem dX6_isRanked_20 : decode cX6_isRanked 20 = .ok (.goto 4, 3) := by decide +kernel
theorem dX6_isRanked_23 : decode cX6_isRanked 23 = .ok (.iconst 0, 1) := by decide +kernel
theorem dX6_isRanked_24 : decode cX6_isRanked 24 = .ok (.ireturn, 1) := by decide +kernel
theorem dX6_sumOf_0 : decode cX6_sumOf 0 = .ok (.aload_n 0, 1) := by decide +kernel
theorem dX6_sumOf_1 : decode cX6_sumOf 1 = .ok (.iload_n 1, 1) := by decide +kernel
theorem dX6_sumOf_2 : decode cX6_sumOf 2 = .ok (.invokevirtual 56, 3) := by decide +kernel
theorem dX6_sumOf_5 : decode cX6_sumOf 5 = .ok (.ifCond .eq 12, 3) := by decide +kernel
theorem dX6_sumOf_8 : decode cX6_sumOf 8 = .ok (.aload_n 0, 1) := by decide +kernel
theorem dX6_sumOf_9 : decode cX6_sumOf 9 = .ok (.getfield 15, 3) := by decide +kernel
theorem dX6_sumOf_12 : decode cX6_sumOf 12 = .ok (.iload_n 1, 1) := by decide +kernel
theorem dX6_sumOf_13 : decode cX6_sumOf 13 = .ok (.iaload, 1) := by decide +kernel
theorem dX6_sumOf_14 : decode cX6_sumOf 14 = .ok (.goto 4, 3) := by decide +kernel
theorem dX6_sumOf_17 : decode cX6_sumOf 17 = .ok (.iconst (-1), 1) := by decide +kernel
theorem dX6_sumOf_18 : decode cX6_sumOf 18 = .ok (.ireturn, 1) := by decide +kernel
theorem dX6_rankOf_0 : decode cX6_rankOf 0 = .ok (.aload_n 0, 1) := by decide +kernel
theorem dX6_rankOf_1 : decode cX6_rankOf 1 = .ok (.iload_n 1, 1) := by decide +kernel
theorem dX6_rankOf_2 : decode cX6_rankOf 2 = .ok (.invokevirtual 56, 3) := by decide +kernel
theorem dX6_rankOf_5 : decode cX6_rankOf 5 = .ok (.ifCond .eq 12, 3) := by decide +kernel
theorem dX6_rankOf_8 : decode cX6_rankOf 8 = .ok (.aload_n 0, 1) := by decide +kernel
theorem dX6_rankOf_9 : decode cX6_rankOf 9 = .ok (.getfield 19, 3) := by decide +kernel
theorem dX6_rankOf_12 : decode cX6_rankOf 12 = .ok (.iload_n 1, 1) := by decide +kernel
theorem dX6_rankOf_13 : decode cX6_rankOf 13 = .ok (.iaload, 1) := by decide +kernel
theorem dX6_rankOf_14 : decode cX6_rankOf 14 = .ok (.goto 4, 3) := by decide +kernel
theorem dX6_rankOf_17 : decode cX6_rankOf 17 = .ok (.iconst (-1), 1) := by decide +kernel
theorem dX6_rankOf_18 : decode cX6_rankOf 18 = .ok (.ireturn, 1) := by decide +kernel
theorem dX6_manyAt_0 : decode cX6_manyAt 0 = .ok (.iconst 0, 1) := by decide +kernel
theorem dX6_manyAt_1 : decode cX6_manyAt 1 = .ok (.istore_n 2, 1) := by decide +kernel
theorem dX6_manyAt_2 : decode cX6_manyAt 2 = .ok (.iconst 0, 1) := by decide +kernel
theorem dX6_manyAt_3 : decode cX6_manyAt 3 = .ok (.istore_n 3, 1) := by decide +kernel
theorem dX6_manyAt_4 : decode cX6_manyAt 4 = .ok (.iload_n 3, 1) := by decide +kernel
theorem dX6_manyAt_5 : decode cX6_manyAt 5 = .ok (.bipush 16, 2) := by decide +kernel
theorem dX6_manyAt_7 : decode cX6_manyAt 7 = .ok (.if_icmp .ge 21, 3) := by decide +kernel
theorem dX6_manyAt_10 : decode cX6_manyAt 10 = .ok (.aload_n 0, 1) := by decide +kernel
theorem dX6_manyAt_11 : decode cX6_manyAt 11 = .ok (.iload_n 3, 1) := by decide +kernel
theorem dX6_manyAt_12 : decode cX6_manyAt 12 = .ok (.invokevirtual 60, 3) := by decide +kernel
theorem dX6_manyAt_15 : decode cX6_manyAt 15 = .ok (.iload_n 1, 1) := by decide +kernel
theorem dX6_manyAt_16 : decode cX6_manyAt 16 = .ok (.if_icmp .ne 6, 3) := by decide +kernel
theorem dX6_manyAt_19 : decode cX6_manyAt 19 = .ok (.iinc 2 1, 3) := by decide +kernel
theorem dX6_manyAt_22 : decode cX6_manyAt 22 = .ok (.iinc 3 1, 3) := by decide +kernel
theorem dX6_manyAt_25 : decode cX6_manyAt 25 = .ok (.goto (-21), 3) := by decide +kernel
theorem dX6_manyAt_28 : decode cX6_manyAt 28 = .ok (.iload_n 2, 1) := by decide +kernel
theorem dX6_manyAt_29 : decode cX6_manyAt 29 = .ok (.ireturn, 1) := by decide +kernel
theorem dX6_listByRank_0 : decode cX6_listByRank 0 = .ok (.iconst 0, 1) := by decide +kernel
theorem dX6_listByRank_1 : decode cX6_listByRank 1 = .ok (.istore_n 2, 1) := by decide +kernel
theorem dX6_listByRank_2 : decode cX6_listByRank 2 = .ok (.iconst 1, 1) := by decide +kernel
theorem dX6_listByRank_3 : decode cX6_listByRank 3 = .ok (.istore_n 3, 1) := by decide +kernel
theorem dX6_listByRank_4 : decode cX6_listByRank 4 = .ok (.iload_n 3, 1) := by decide +kernel
theorem dX6_listByRank_5 : decode cX6_listByRank 5 = .ok (.bipush 16, 2) := by decide +kernel
theorem dX6_listByRank_7 : decode cX6_listByRank 7 = .ok (.if_icmp .gt 49, 3) := by decide +kernel
theorem dX6_listByRank_10 : decode cX6_listByRank 10 = .ok (.iconst 0, 1) := by decide +kernel
theorem dX6_listByRank_11 : decode cX6_listByRank 11 = .ok (.istore 4, 2) := by decide +kernel
theorem dX6_listByRank_13 : decode cX6_listByRank 13 = .ok (.iload 4, 2) := by decide +kernel
theorem dX6_listByRank_15 : decode cX6_listByRank 15 = .ok (.bipush 16, 2) := by decide +kernel
theorem dX6_listByRank_17 : decode cX6_listByRank 17 = .ok (.if_icmp .ge 33, 3) := by decide +kernel
theorem dX6_listByRank_20 : decode cX6_listByRank 20 = .ok (.aload_n 0, 1) := by decide +kernel
theorem dX6_listByRank_21 : decode cX6_listByRank 21 = .ok (.iload 4, 2) := by decide +kernel
theorem dX6_listByRank_23 : decode cX6_listByRank 23 = .ok (.invokevirtual 60, 3) := by decide +kernel
theorem dX6_listByRank_26 : decode cX6_listByRank 26 = .ok (.iload_n 3, 1) := by decide +kernel
theorem dX6_listByRank_27 : decode cX6_listByRank 27 = .ok (.if_icmp .ne 17, 3) := by decide +kernel
theorem dX6_listByRank_30 : decode cX6_listByRank 30 = .ok (.iload_n 2, 1) := by decide +kernel
theorem dX6_listByRank_31 : decode cX6_listByRank 31 = .ok (.aload_n 1, 1) := by decide +kernel
theorem dX6_listByRank_32 : decode cX6_listByRank 32 = .ok (.arraylength, 1) := by decide +kernel
theorem dX6_listByRank_33 : decode cX6_listByRank 33 = .ok (.if_icmp .ge 11, 3) := by decide +kernel
theorem dX6_listByRank_36 : decode cX6_listByRank 36 = .ok (.aload_n 1, 1) := by decide +kernel
theorem dX6_listByRank_37 : decode cX6_listByRank 37 = .ok (.iload_n 2, 1) := by decide +kernel
theorem dX6_listByRank_38 : decode cX6_listByRank 38 = .ok (.iload 4, 2) := by decide +kernel
theorem dX6_listByRank_40 : decode cX6_listByRank 40 = .ok (.iastore, 1) := by decide +kernel
theorem dX6_listByRank_41 : decode cX6_listByRank 41 = .ok (.iinc 2 1, 3) := by decide +kernel
theorem dX6_listByRank_44 : decode cX6_listByRank 44 = .ok (.iinc 4 1, 3) := by decide +kernel
theorem dX6_listByRank_47 : decode cX6_listByRank 47 = .ok (.goto (-34), 3) := by decide +kernel
theorem dX6_listByRank_50 : decode cX6_listByRank 50 = .ok (.iinc 3 1, 3) := by decide +kernel
theorem dX6_listByRank_53 : decode cX6_listByRank 53 = .ok (.goto (-49), 3) := by decide +kernel
theorem dX6_listByRank_56 : decode cX6_listByRank 56 = .ok (.iload_n 2, 1) := by decide +kernel
theorem dX6_listByRank_57 : decode cX6_listByRank 57 = .ok (.ireturn, 1) := by decide +kernel
theorem dX7_init_0 : decode cX7_init 0 = .ok (.aload_n 0, 1) := by decide +kernel
theorem dX7_init_1 : decode cX7_init 1 = .ok (.invokespecial 3, 3) := by decide +kernel
theorem dX7_init_4 : decode cX7_init 4 = .ok (.aload_n 0, 1) := by decide +kernel
theorem dX7_init_5 : decode cX7_init 5 = .ok (.iconst 0, 1) := by decide +kernel
theorem dX7_init_6 : decode cX7_init 6 = .ok (.putfield 9, 3) := by decide +kernel
theorem dX7_init_9 : decode cX7_init 9 = .ok (.aload_n 0, 1) := by decide +kernel
theorem dX7_init_10 : decode cX7_init 10 = .ok (.sipush 300, 3) := by decide +kernel
theorem dX7_init_13 : decode cX7_init 13 = .ok (.newarray .byte, 2) := by decide +kernel
theorem dX7_init_15 : decode cX7_init 15 = .ok (.putfield 15, 3) := by decide +kernel
theorem dX7_init_18 : decode cX7_init 18 = .ok (.return_, 1) := by decide +kernel
theorem dX7_append_0 : decode cX7_append 0 = .ok (.bipush 24, 2) := by decide +kernel
theorem dX7_append_2 : decode cX7_append 2 = .ok (.istore_n 2, 1) := by decide +kernel
theorem dX7_append_3 : decode cX7_append 3 = .ok (.iload_n 2, 1) := by decide +kernel
theorem dX7_append_4 : decode cX7_append 4 = .ok (.ifCond .lt 42, 3) := by decide +kernel
theorem dX7_append_7 : decode cX7_append 7 = .ok (.aload_n 0, 1) := by decide +kernel
theorem dX7_append_8 : decode cX7_append 8 = .ok (.getfield 9, 3) := by decide +kernel
theorem dX7_append_11 : decode cX7_append 11 = .ok (.sipush 300, 3) := by decide +kernel
theorem dX7_append_14 : decode cX7_append 14 = .ok (.if_icmp .ge 32, 3) := by decide +kernel
theorem dX7_append_17 : decode cX7_append 17 = .ok (.aload_n 0, 1) := by decide +kernel
theorem dX7_append_18 : decode cX7_append 18 = .ok (.getfield 15, 3) := by decide +kernel
theorem dX7_append_21 : decode cX7_append 21 = .ok (.aload_n 0, 1) := by decide +kernel
theorem dX7_append_22 : decode cX7_append 22 = .ok (.getfield 9, 3) := by decide +kernel
theorem dX7_append_25 : decode cX7_append 25 = .ok (.iload_n 1, 1) := by decide +kernel
theorem dX7_append_26 : decode cX7_append 26 = .ok (.iload_n 2, 1) := by decide +kernel
theorem dX7_append_27 : decode cX7_append 27 = .ok (.iushr, 1) := by decide +kernel
theorem dX7_append_28 : decode cX7_append 28 = .ok (.i2b, 1) := by decide +kernel
theorem dX7_append_29 : decode cX7_append 29 = .ok (.bastore, 1) := by decide +kernel
theorem dX7_append_30 : decode cX7_append 30 = .ok (.aload_n 0, 1) := by decide +kernel
theorem dX7_append_31 : decode cX7_append 31 = .ok (.dup, 1) := by decide +kernel
theorem dX7_append_32 : decode cX7_append 32 = .ok (.getfield 9, 3) := by decide +kernel
theorem dX7_append_35 : decode cX7_append 35 = .ok (.iconst 1, 1) := by decide +kernel
theorem dX7_append_36 : decode cX7_append 36 = .ok (.iadd, 1) := by decide +kernel
theorem dX7_append_37 : decode cX7_append 37 = .ok (.putfield 9, 3) := by decide +kernel
theorem dX7_append_40 : decode cX7_append 40 = .ok (.iinc 2 (-8), 3) := by decide +kernel
theorem dX7_append_43 : decode cX7_append 43 = .ok (.goto (-40), 3) := by decide +kernel
theorem dX7_append_46 : decode cX7_append 46 = .ok (.return_, 1) := by decide +kernel
theorem dX7_byteAt_0 : decode cX7_byteAt 0 = .ok (.iload_n 1, 1) := by decide +kernel
theorem dX7_byteAt_1 : decode cX7_byteAt 1 = .ok (.ifCond .lt 24, 3) := by decide +kernel
theorem dX7_byteAt_4 : decode cX7_byteAt 4 = .ok (.iload_n 1, 1) := by decide +kernel
theorem dX7_byteAt_5 : decode cX7_byteAt 5 = .ok (.aload_n 0, 1) := by decide +kernel
theorem dX7_byteAt_6 : decode cX7_byteAt 6 = .ok (.getfield 9, 3) := by decide +kernel
theorem dX7_byteAt_9 : decode cX7_byteAt 9 = .ok (.if_icmp .ge 16, 3) := by decide +kernel
theorem dX7_byteAt_12 : decode cX7_byteAt 12 = .ok (.aload_n 0, 1) := by decide +kernel
theorem dX7_byteAt_13 : decode cX7_byteAt 13 = .ok (.getfield 15, 3) := by decide +kernel
theorem dX7_byteAt_16 : decode cX7_byteAt 16 = .ok (.iload_n 1, 1) := by decide +kernel
theorem dX7_byteAt_17 : decode cX7_byteAt 17 = .ok (.baload, 1) := by decide +kernel
theorem dX7_byteAt_18 : decode cX7_byteAt 18 = .ok (.sipush 255, 3) := by decide +kernel
theorem dX7_byteAt_21 : decode cX7_byteAt 21 = .ok (.iand, 1) := by decide +kernel
theorem dX7_byteAt_22 : decode cX7_byteAt 22 = .ok (.goto 4, 3) := by decide +kernel
theorem dX7_byteAt_25 : decode cX7_byteAt 25 = .ok (.iconst (-1), 1) := by decide +kernel
theorem dX7_byteAt_26 : decode cX7_byteAt 26 = .ok (.ireturn, 1) := by decide +kernel
theorem dX8_init_0 : decode cX8_init 0 = .ok (.aload_n 0, 1) := by decide +kernel
theorem dX8_init_1 : decode cX8_init 1 = .ok (.invokespecial 3, 3) := by decide +kernel
theorem dX8_init_4 : decode cX8_init 4 = .ok (.aload_n 0, 1) := by decide +kernel
theorem dX8_init_5 : decode cX8_init 5 = .ok (.iconst 0, 1) := by decide +kernel
theorem dX8_init_6 : decode cX8_init 6 = .ok (.putfield 9, 3) := by decide +kernel
theorem dX8_init_9 : decode cX8_init 9 = .ok (.aload_n 0, 1) := by decide +kernel
theorem dX8_init_10 : decode cX8_init 10 = .ok (.iconst 0, 1) := by decide +kernel
theorem dX8_init_11 : decode cX8_init 11 = .ok (.putfield 15, 3) := by decide +kernel
theorem dX8_init_14 : decode cX8_init 14 = .ok (.aload_n 0, 1) := by decide +kernel
theorem dX8_init_15 : decode cX8_init 15 = .ok (.bipush 40, 2) := by decide +kernel
theorem dX8_init_17 : decode cX8_init 17 = .ok (.newarray .int, 2) := by decide +kernel
theorem dX8_init_19 : decode cX8_init 19 = .ok (.putfield 18, 3) := by decide +kernel
theorem dX8_init_22 : decode cX8_init 22 = .ok (.aload_n 0, 1) := by decide +kernel
theorem dX8_init_23 : decode cX8_init 23 = .ok (.bipush 40, 2) := by decide +kernel
theorem dX8_init_25 : decode cX8_init 25 = .ok (.newarray .int, 2) := by decide +kernel
theorem dX8_init_27 : decode cX8_init 27 = .ok (.putfield 22, 3) := by decide +kernel
theorem dX8_init_30 : decode cX8_init 30 = .ok (.aload_n 0, 1) := by decide +kernel
theorem dX8_init_31 : decode cX8_init 31 = .ok (.bipush 40, 2) := by decide +kernel
theorem dX8_init_33 : decode cX8_init 33 = .ok (.newarray .int, 2) := by decide +kernel
theorem dX8_init_35 : decode cX8_init 35 = .ok (.putfield 25, 3) := by decide +kernel
theorem dX8_init_38 : decode cX8_init 38 = .ok (.aload_n 0, 1) := by decide +kernel
theorem dX8_init_39 : decode cX8_init 39 = .ok (.bipush 40, 2) := by decide +kernel
theorem dX8_init_41 : decode cX8_init 41 = .ok (.newarray .int, 2) := by decide +kernel
theorem dX8_init_43 : decode cX8_init 43 = .ok (.putfield 28, 3) := by decide +kernel
theorem dX8_init_46 : decode cX8_init 46 = .ok (.aload_n 0, 1) := by decide +kernel
theorem dX8_init_47 : decode cX8_init 47 = .ok (.bipush 40, 2) := by decide +kernel
theorem dX8_init_49 : decode cX8_init 49 = .ok (.newarray .int, 2) := by decide +kernel
theorem dX8_init_51 : decode cX8_init 51 = .ok (.putfield 31, 3) := by decide +kernel
theorem dX8_init_54 : decode cX8_init 54 = .ok (.aload_n 0, 1) := by decide +kernel
theorem dX8_init_55 : decode cX8_init 55 = .ok (.bipush 6, 2) := by decide +kernel
theorem dX8_init_57 : decode cX8_init 57 = .ok (.newarray .int, 2) := by decide +kernel
theorem dX8_init_59 : decode cX8_init 59 = .ok (.putfield 34, 3) := by decide +kernel
theorem dX8_init_62 : decode cX8_init 62 = .ok (.aload_n 0, 1) := by decide +kernel
theorem dX8_init_63 : decode cX8_init 63 = .ok (.bipush 12, 2) := by decide +kernel
theorem dX8_init_65 : decode cX8_init 65 = .ok (.newarray .int, 2) := by decide +kernel
theorem dX8_init_67 : decode cX8_init 67 = .ok (.putfield 37, 3) := by decide +kernel
theorem dX8_init_70 : decode cX8_init 70 = .ok (.return_, 1) := by decide +kernel
theorem dX8_makeAnew_0 : decode cX8_makeAnew 0 = .ok (.aload_n 0, 1) := by decide +kernel
theorem dX8_makeAnew_1 : decode cX8_makeAnew 1 = .ok (.iload_n 1, 1) := by decide +kernel
theorem dX8_makeAnew_2 : decode cX8_makeAnew 2 = .ok (.putfield 9, 3) := by decide +kernel
theorem dX8_makeAnew_5 : decode cX8_makeAnew 5 = .ok (.aload_n 0, 1) := by decide +kernel
theorem dX8_makeAnew_6 : decode cX8_makeAnew 6 = .ok (.iload_n 2, 1) := by decide +kernel
theorem dX8_makeAnew_7 : decode cX8_makeAnew 7 = .ok (.putfield 15, 3) := by decide +kernel
theorem dX8_makeAnew_10 : decode cX8_makeAnew 10 = .ok (.iconst 0, 1) := by decide +kernel
theorem dX8_makeAnew_11 : decode cX8_makeAnew 11 = .ok (.istore_n 3, 1) := by decide +kernel
theorem dX8_makeAnew_12 : decode cX8_makeAnew 12 = .ok (.iload_n 3, 1) := by decide +kernel
theorem dX8_makeAnew_13 : decode cX8_makeAnew 13 = .ok (.iload_n 1, 1) := by decide +kernel
theorem dX8_makeAnew_14 : decode cX8_makeAnew 14 = .ok (.if_icmp .ge 48, 3) := by decide +kernel
theorem dX8_makeAnew_17 : decode cX8_makeAnew 17 = .ok (.aload_n 0, 1) := by decide +kernel
theorem dX8_makeAnew_18 : decode cX8_makeAnew 18 = .ok (.getfield 18, 3) := by decide +kernel
theorem dX8_makeAnew_21 : decode cX8_makeAnew 21 = .ok (.iload_n 3, 1) := by decide +kernel
theorem dX8_makeAnew_22 : decode cX8_makeAnew 22 = .ok (.sipush 200, 3) := by decide +kernel
theorem dX8_makeAnew_25 : decode cX8_makeAnew 25 = .ok (.iastore, 1) := by decide +kernel
theorem dX8_makeAnew_26 : decode cX8_makeAnew 26 = .ok (.aload_n 0, 1) := by decide +kernel
theorem dX8_makeAnew_27 : decode cX8_makeAnew 27 = .ok (.getfield 22, 3) := by decide +kernel
theorem dX8_makeAnew_30 : decode cX8_makeAnew 30 = .ok (.iload_n 3, 1) := by decide +kernel
theorem dX8_makeAnew_31 : decode cX8_makeAnew 31 = .ok (.iconst 0, 1) := by decide +kernel
theorem dX8_makeAnew_32 : decode cX8_makeAnew 32 = .ok (.iastore, 1) := by decide +kernel
theorem dX8_makeAnew_33 : decode cX8_makeAnew 33 = .ok (.aload_n 0, 1) := by decide +kernel
theorem dX8_makeAnew_34 : decode cX8_makeAnew 34 = .ok (.getfield 25, 3) := by decide +kernel
theorem dX8_makeAnew_37 : decode cX8_makeAnew 37 = .ok (.iload_n 3, 1) := by decide +kernel
theorem dX8_makeAnew_38 : decode cX8_makeAnew 38 = .ok (.iconst 0, 1) := by decide +kernel
theorem dX8_makeAnew_39 : decode cX8_makeAnew 39 = .ok (.iastore, 1) := by decide +kernel
theorem dX8_makeAnew_40 : decode cX8_makeAnew 40 = .ok (.aload_n 0, 1) := by decide +kernel
theorem dX8_makeAnew_41 : decode cX8_makeAnew 41 = .ok (.getfield 28, 3) := by decide +kernel
theorem dX8_makeAnew_44 : decode cX8_makeAnew 44 = .ok (.iload_n 3, 1) := by decide +kernel
theorem dX8_makeAnew_45 : decode cX8_makeAnew 45 = .ok (.sipush 500, 3) := by decide +kernel
theorem dX8_makeAnew_48 : decode cX8_makeAnew 48 = .ok (.iastore, 1) := by decide +kernel
theorem dX8_makeAnew_49 : decode cX8_makeAnew 49 = .ok (.aload_n 0, 1) := by decide +kernel
theorem dX8_makeAnew_50 : decode cX8_makeAnew 50 = .ok (.getfield 31, 3) := by decide +kernel
theorem dX8_makeAnew_53 : decode cX8_makeAnew 53 = .ok (.iload_n 3, 1) := by decide +kernel
theorem dX8_makeAnew_54 : decode cX8_makeAnew 54 = .ok (.iconst 0, 1) := by decide +kernel
theorem dX8_makeAnew_55 : decode cX8_makeAnew 55 = .ok (.iastore, 1) := by decide +kernel
theorem dX8_makeAnew_56 : decode cX8_makeAnew 56 = .ok (.iinc 3 1, 3) := by decide +kernel
theorem dX8_makeAnew_59 : decode cX8_makeAnew 59 = .ok (.goto (-47), 3) := by decide +kernel
theorem dX8_makeAnew_62 : decode cX8_makeAnew 62 = .ok (.iconst 0, 1) := by decide +kernel
theorem dX8_makeAnew_63 : decode cX8_makeAnew 63 = .ok (.istore_n 3, 1) := by decide +kernel
theorem dX8_makeAnew_64 : decode cX8_makeAnew 64 = .ok (.iload_n 3, 1) := by decide +kernel
theorem dX8_makeAnew_65 : decode cX8_makeAnew 65 = .ok (.iload_n 2, 1) := by decide +kernel
theorem dX8_makeAnew_66 : decode cX8_makeAnew 66 = .ok (.if_icmp .ge 31, 3) := by decide +kernel
theorem dX8_makeAnew_69 : decode cX8_makeAnew 69 = .ok (.aload_n 0, 1) := by decide +kernel
theorem dX8_makeAnew_70 : decode cX8_makeAnew 70 = .ok (.getfield 34, 3) := by decide +kernel
theorem dX8_makeAnew_73 : decode cX8_makeAnew 73 = .ok (.iload_n 3, 1) := by decide +kernel
theorem dX8_makeAnew_74 : decode cX8_makeAnew 74 = .ok (.iload_n 2, 1) := by decide +kernel
theorem dX8_makeAnew_75 : decode cX8_makeAnew 75 = .ok (.iconst 1, 1) := by decide +kernel
theorem dX8_makeAnew_76 : decode cX8_makeAnew 76 = .ok (.if_icmp .le 13, 3) := by decide +kernel
theorem dX8_makeAnew_79 : decode cX8_makeAnew 79 = .ok (.iload_n 3, 1) := by decide +kernel
theorem dX8_makeAnew_80 : decode cX8_makeAnew 80 = .ok (.iload_n 1, 1) := by decide +kernel
theorem dX8_makeAnew_81 : decode cX8_makeAnew 81 = .ok (.imul, 1) := by decide +kernel
theorem dX8_makeAnew_82 : decode cX8_makeAnew 82 = .ok (.iload_n 2, 1) := by decide +kernel
theorem dX8_makeAnew_83 : decode cX8_makeAnew 83 = .ok (.iconst 1, 1) := by decide +kernel
theorem dX8_makeAnew_84 : decode cX8_makeAnew 84 = .ok (.isub, 1) := by decide +kernel
theorem dX8_makeAnew_85 : decode cX8_makeAnew 85 = .ok (.idiv, 1) := by decide +kernel
theorem dX8_makeAnew_86 : decode cX8_makeAnew 86 = .ok (.goto 4, 3) := by decide +kernel
theorem dX8_makeAnew_89 : decode cX8_makeAnew 89 = .ok (.iconst 0, 1) := by decide +kernel
theorem dX8_makeAnew_90 : decode cX8_makeAnew 90 = .ok (.iastore, 1) := by decide +kernel
theorem dX8_makeAnew_91 : decode cX8_makeAnew 91 = .ok (.iinc 3 1, 3) := by decide +kernel
theorem dX8_makeAnew_94 : decode cX8_makeAnew 94 = .ok (.goto (-30), 3) := by decide +kernel
theorem dX8_makeAnew_97 : decode cX8_makeAnew 97 = .ok (.iconst 0, 1) := by decide +kernel
theorem dX8_makeAnew_98 : decode cX8_makeAnew 98 = .ok (.istore_n 3, 1) := by decide +kernel
theorem dX8_makeAnew_99 : decode cX8_makeAnew 99 = .ok (.iload_n 3, 1) := by decide +kernel
theorem dX8_makeAnew_100 : decode cX8_makeAnew 100 = .ok (.aload_n 0, 1) := by decide +kernel
theorem dX8_makeAnew_101 : decode cX8_makeAnew 101 = .ok (.getfield 37, 3) := by decide +kernel
theorem dX8_makeAnew_104 : decode cX8_makeAnew 104 = .ok (.arraylength, 1) := by decide +kernel
theorem dX8_makeAnew_105 : decode cX8_makeAnew 105 = .ok (.if_icmp .ge 16, 3) := by decide +kernel
theorem dX8_makeAnew_108 : decode cX8_makeAnew 108 = .ok (.aload_n 0, 1) := by decide +kernel
theorem dX8_makeAnew_109 : decode cX8_makeAnew 109 = .ok (.getfield 37, 3) := by decide +kernel
theorem dX8_makeAnew_112 : decode cX8_makeAnew 112 = .ok (.iload_n 3, 1) := by decide +kernel
theorem dX8_makeAnew_113 : decode cX8_makeAnew 113 = .ok (.iconst 0, 1) := by decide +kernel
theorem dX8_makeAnew_114 : decode cX8_makeAnew 114 = .ok (.iastore, 1) := by decide +kernel
theorem dX8_makeAnew_115 : decode cX8_makeAnew 115 = .ok (.iinc 3 1, 3) := by decide +kernel
theorem dX8_makeAnew_118 : decode cX8_makeAnew 118 = .ok (.goto (-19), 3) := by decide +kernel
theorem dX8_makeAnew_121 : decode cX8_makeAnew 121 = .ok (.return_, 1) := by decide +kernel
theorem dX8_hasCell_0 : decode cX8_hasCell 0 = .ok (.iload_n 1, 1) := by decide +kernel
theorem dX8_hasCell_1 : decode cX8_hasCell 1 = .ok (.iconst 0, 1) := by decide +kernel
theorem dX8_hasCell_2 : decode cX8_hasCell 2 = .ok (.aload_n 0, 1) := by decide +kernel
theorem dX8_hasCell_3 : decode cX8_hasCell 3 = .ok (.getfield 9, 3) := by decide +kernel
theorem dX8_hasCell_6 : decode cX8_hasCell 6 = .ok (.iconst 1, 1) := by decide +kernel
theorem dX8_hasCell_7 : decode cX8_hasCell 7 = .ok (.isub, 1) := by decide +kernel
theorem dX8_hasCell_8 : decode cX8_hasCell 8 = .ok (.invokestatic 40, 3) := by decide +kernel
theorem dX8_hasCell_11 : decode cX8_hasCell 11 = .ok (.ireturn, 1) := by decide +kernel
theorem dX8_shape_0 : decode cX8_shape 0 = .ok (.aload_n 0, 1) := by decide +kernel
theorem dX8_shape_1 : decode cX8_shape 1 = .ok (.getfield 18, 3) := by decide +kernel
theorem dX8_shape_4 : decode cX8_shape 4 = .ok (.iload_n 1, 1) := by decide +kernel
theorem dX8_shape_5 : decode cX8_shape 5 = .ok (.iload_n 2, 1) := by decide +kernel
theorem dX8_shape_6 : decode cX8_shape 6 = .ok (.iastore, 1) := by decide +kernel
theorem dX8_shape_7 : decode cX8_shape 7 = .ok (.aload_n 0, 1) := by decide +kernel
theorem dX8_shape_8 : decode cX8_shape 8 = .ok (.getfield 22, 3) := by decide +kernel
theorem dX8_shape_11 : decode cX8_shape 11 = .ok (.iload_n 1, 1) := by decide +kernel
theorem dX8_shape_12 : decode cX8_shape 12 = .ok (.iload_n 3, 1) := by decide +kernel
theorem dX8_shape_13 : decode cX8_shape 13 = .ok (.iastore, 1) := by decide +kernel
theorem dX8_shape_14 : decode cX8_shape 14 = .ok (.aload_n 0, 1) := by decide +kernel
theorem dX8_shape_15 : decode cX8_shape 15 = .ok (.getfield 25, 3) := by decide +kernel
theorem dX8_shape_18 : decode cX8_shape 18 = .ok (.iload_n 1, 1) := by decide +kernel
theorem dX8_shape_19 : decode cX8_shape 19 = .ok (.iload 4, 2) := by decide +kernel
theorem dX8_shape_21 : decode cX8_shape 21 = .ok (.iastore, 1) := by decide +kernel
theorem dX8_shape_22 : decode cX8_shape 22 = .ok (.return_, 1) := by decide +kernel
theorem dX8_look_0 : decode cX8_look 0 = .ok (.iload_n 2, 1) := by decide +kernel
theorem dX8_look_1 : decode cX8_look 1 = .ok (.tableswitch 70 0 4 #[35, 42, 49, 56, 63], 35) := by decide +kernel
theorem dX8_look_36 : decode cX8_look 36 = .ok (.aload_n 0, 1) := by decide +kernel
theorem dX8_look_37 : decode cX8_look 37 = .ok (.getfield 18, 3) := by decide +kernel
theorem dX8_look_40 : decode cX8_look 40 = .ok (.iload_n 1, 1) := by decide +kernel
theorem dX8_look_41 : decode cX8_look 41 = .ok (.iaload, 1) := by decide +kernel
theorem dX8_look_42 : decode cX8_look 42 = .ok (.ireturn, 1) := by decide +kernel
theorem dX8_look_43 : decode cX8_look 43 = .ok (.aload_n 0, 1) := by decide +kernel
theorem dX8_look_44 : decode cX8_look 44 = .ok (.getfield 22, 3) := by decide +kernel
theorem dX8_look_47 : decode cX8_look 47 = .ok (.iload_n 1, 1) := by decide +kernel
theorem dX8_look_48 : decode cX8_look 48 = .ok (.iaload, 1) := by decide +kernel
theorem dX8_look_49 : decode cX8_look 49 = .ok (.ireturn, 1) := by decide +kernel
theorem dX8_look_50 : decode cX8_look 50 = .ok (.aload_n 0, 1) := by decide +kernel
theorem dX8_look_51 : decode cX8_look 51 = .ok (.getfield 25, 3) := by decide +kernel
theorem dX8_look_54 : decode cX8_look 54 = .ok (.iload_n 1, 1) := by decide +kernel
theorem dX8_look_55 : decode cX8_look 55 = .ok (.iaload, 1) := by decide +kernel
theorem dX8_look_56 : decode cX8_look 56 = .ok (.ireturn, 1) := by decide +kernel
theorem dX8_look_57 : decode cX8_look 57 = .ok (.aload_n 0, 1) := by decide +kernel
theorem dX8_look_58 : decode cX8_look 58 = .ok (.getfield 28, 3) := by decide +kernel
theorem dX8_look_61 : decode cX8_look 61 = .ok (.iload_n 1, 1) := by decide +kernel
theorem dX8_look_62 : decode cX8_look 62 = .ok (.iaload, 1) := by decide +kernel
theorem dX8_look_63 : decode cX8_look 63 = .ok (.ireturn, 1) := by decide +kernel
theorem dX8_look_64 : decode cX8_look 64 = .ok (.aload_n 0, 1) := by decide +kernel
theorem dX8_look_65 : decode cX8_look 65 = .ok (.getfield 31, 3) := by decide +kernel
theorem dX8_look_68 : decode cX8_look 68 = .ok (.iload_n 1, 1) := by decide +kernel
theorem dX8_look_69 : decode cX8_look 69 = .ok (.iaload, 1) := by decide +kernel
theorem dX8_look_70 : decode cX8_look 70 = .ok (.ireturn, 1) := by decide +kernel
theorem dX8_look_71 : decode cX8_look 71 = .ok (.iconst (-1), 1) := by decide +kernel
theorem dX8_look_72 : decode cX8_look 72 = .ok (.ireturn, 1) := by decide +kernel
theorem dX8_soften_0 : decode cX8_soften 0 = .ok (.iconst 0, 1) := by decide +kernel
theorem dX8_soften_1 : decode cX8_soften 1 = .ok (.istore 4, 2) := by decide +kernel
theorem dX8_soften_3 : decode cX8_soften 3 = .ok (.iload 4, 2) := by decide +kernel
theorem dX8_soften_5 : decode cX8_soften 5 = .ok (.aload_n 0, 1) := by decide +kernel
theorem dX8_soften_6 : decode cX8_soften 6 = .ok (.getfield 9, 3) := by decide +kernel
theorem dX8_soften_9 : decode cX8_soften 9 = .ok (.if_icmp .ge 51, 3) := by decide +kernel
theorem dX8_soften_12 : decode cX8_soften 12 = .ok (.aload_n 0, 1) := by decide +kernel
theorem dX8_soften_13 : decode cX8_soften 13 = .ok (.getfield 28, 3) := by decide +kernel
theorem dX8_soften_16 : decode cX8_soften 16 = .ok (.iload 4, 2) := by decide +kernel
theorem dX8_soften_18 : decode cX8_soften 18 = .ok (.iaload, 1) := by decide +kernel
theorem dX8_soften_19 : decode cX8_soften 19 = .ok (.iload_n 1, 1) := by decide +kernel
theorem dX8_soften_20 : decode cX8_soften 20 = .ok (.iload_n 2, 1) := by decide +kernel
theorem dX8_soften_21 : decode cX8_soften 21 = .ok (.aload_n 0, 1) := by decide +kernel
theorem dX8_soften_22 : decode cX8_soften 22 = .ok (.getfield 25, 3) := by decide +kernel
theorem dX8_soften_25 : decode cX8_soften 25 = .ok (.iload 4, 2) := by decide +kernel
theorem dX8_soften_27 : decode cX8_soften 27 = .ok (.iaload, 1) := by decide +kernel
theorem dX8_soften_28 : decode cX8_soften 28 = .ok (.iload_n 3, 1) := by decide +kernel
theorem dX8_soften_29 : decode cX8_soften 29 = .ok (.imul, 1) := by decide +kernel
theorem dX8_soften_30 : decode cX8_soften 30 = .ok (.iadd, 1) := by decide +kernel
theorem dX8_soften_31 : decode cX8_soften 31 = .ok (.imul, 1) := by decide +kernel
theorem dX8_soften_32 : decode cX8_soften 32 = .ok (.isub, 1) := by decide +kernel
theorem dX8_soften_33 : decode cX8_soften 33 = .ok (.istore 5, 2) := by decide +kernel
theorem dX8_soften_35 : decode cX8_soften 35 = .ok (.aload_n 0, 1) := by decide +kernel
theorem dX8_soften_36 : decode cX8_soften 36 = .ok (.getfield 28, 3) := by decide +kernel
theorem dX8_soften_39 : decode cX8_soften 39 = .ok (.iload 4, 2) := by decide +kernel
theorem dX8_soften_41 : decode cX8_soften 41 = .ok (.iconst 0, 1) := by decide +kernel
theorem dX8_soften_42 : decode cX8_soften 42 = .ok (.sipush 1000, 3) := by decide +kernel
theorem dX8_soften_45 : decode cX8_soften 45 = .ok (.iload 5, 2) := by decide +kernel
theorem dX8_soften_47 : decode cX8_soften 47 = .ok (.invokestatic 44, 3) := by decide +kernel
theorem dX8_soften_50 : decode cX8_soften 50 = .ok (.invokestatic 50, 3) := by decide +kernel
theorem dX8_soften_53 : decode cX8_soften 53 = .ok (.iastore, 1) := by decide +kernel
theorem dX8_soften_54 : decode cX8_soften 54 = .ok (.iinc 4 1, 3) := by decide +kernel
theorem dX8_soften_57 : decode cX8_soften 57 = .ok (.goto (-54), 3) := by decide +kernel
theorem dX8_soften_60 : decode cX8_soften 60 = .ok (.return_, 1) := by decide +kernel
theorem dX8_pour_0 : decode cX8_pour 0 = .ok (.iload_n 1, 1) := by decide +kernel
theorem dX8_pour_1 : decode cX8_pour 1 = .ok (.istore_n 3, 1) := by decide +kernel
theorem dX8_pour_2 : decode cX8_pour 2 = .ok (.iload_n 3, 1) := by decide +kernel
theorem dX8_pour_3 : decode cX8_pour 3 = .ok (.iload_n 2, 1) := by decide +kernel
theorem dX8_pour_4 : decode cX8_pour 4 = .ok (.if_icmp .ge 35, 3) := by decide +kernel
theorem dX8_pour_7 : decode cX8_pour 7 = .ok (.aload_n 0, 1) := by decide +kernel
theorem dX8_pour_8 : decode cX8_pour 8 = .ok (.getfield 31, 3) := by decide +kernel
theorem dX8_pour_11 : decode cX8_pour 11 = .ok (.iload_n 3, 1) := by decide +kernel
theorem dX8_pour_12 : decode cX8_pour 12 = .ok (.iconst 0, 1) := by decide +kernel
theorem dX8_pour_13 : decode cX8_pour 13 = .ok (.iastore, 1) := by decide +kernel
theorem dX8_pour_14 : decode cX8_pour 14 = .ok (.aload_n 0, 1) := by decide +kernel
theorem dX8_pour_15 : decode cX8_pour 15 = .ok (.getfield 28, 3) := by decide +kernel
theorem dX8_pour_18 : decode cX8_pour 18 = .ok (.iload_n 3, 1) := by decide +kernel
theorem dX8_pour_19 : decode cX8_pour 19 = .ok (.iconst 0, 1) := by decide +kernel
theorem dX8_pour_20 : decode cX8_pour 20 = .ok (.aload_n 0, 1) := by decide +kernel
theorem dX8_pour_21 : decode cX8_pour 21 = .ok (.getfield 28, 3) := by decide +kernel
theorem dX8_pour_24 : decode cX8_pour 24 = .ok (.iload_n 3, 1) := by decide +kernel
theorem dX8_pour_25 : decode cX8_pour 25 = .ok (.iaload, 1) := by decide +kernel
theorem dX8_pour_26 : decode cX8_pour 26 = .ok (.bipush 100, 2) := by decide +kernel
theorem dX8_pour_28 : decode cX8_pour 28 = .ok (.isub, 1) := by decide +kernel
theorem dX8_pour_29 : decode cX8_pour 29 = .ok (.invokestatic 50, 3) := by decide +kernel
theorem dX8_pour_32 : decode cX8_pour 32 = .ok (.iastore, 1) := by decide +kernel
theorem dX8_pour_33 : decode cX8_pour 33 = .ok (.iinc 3 1, 3) := by decide +kernel
theorem dX8_pour_36 : decode cX8_pour 36 = .ok (.goto (-34), 3) := by decide +kernel
theorem dX8_pour_39 : decode cX8_pour 39 = .ok (.return_, 1) := by decide +kernel
theorem dX8_wear_0 : decode cX8_wear 0 = .ok (.aload_n 0, 1) := by decide +kernel
theorem dX8_wear_1 : decode cX8_wear 1 = .ok (.getfield 31, 3) := by decide +kernel
theorem dX8_wear_4 : decode cX8_wear 4 = .ok (.iload_n 1, 1) := by decide +kernel
theorem dX8_wear_5 : decode cX8_wear 5 = .ok (.bipush 100, 2) := by decide +kernel
theorem dX8_wear_7 : decode cX8_wear 7 = .ok (.aload_n 0, 1) := by decide +kernel
theorem dX8_wear_8 : decode cX8_wear 8 = .ok (.getfield 31, 3) := by decide +kernel
theorem dX8_wear_11 : decode cX8_wear 11 = .ok (.iload_n 1, 1) := by decide +kernel
theorem dX8_wear_12 : decode cX8_wear 12 = .ok (.iaload, 1) := by decide +kernel
theorem dX8_wear_13 : decode cX8_wear 13 = .ok (.iconst 1, 1) := by decide +kernel
theorem dX8_wear_14 : decode cX8_wear 14 = .ok (.iadd, 1) := by decide +kernel
theorem dX8_wear_15 : decode cX8_wear 15 = .ok (.iload_n 2, 1) := by decide +kernel
theorem dX8_wear_16 : decode cX8_wear 16 = .ok (.bipush 64, 2) := by decide +kernel
theorem dX8_wear_18 : decode cX8_wear 18 = .ok (.idiv, 1) := by decide +kernel
theorem dX8_wear_19 : decode cX8_wear 19 = .ok (.iadd, 1) := by decide +kernel
theorem dX8_wear_20 : decode cX8_wear 20 = .ok (.invokestatic 44, 3) := by decide +kernel
theorem dX8_wear_23 : decode cX8_wear 23 = .ok (.iastore, 1) := by decide +kernel
theorem dX8_wear_24 : decode cX8_wear 24 = .ok (.aload_n 0, 1) := by decide +kernel
theorem dX8_wear_25 : decode cX8_wear 25 = .ok (.getfield 28, 3) := by decide +kernel
theorem dX8_wear_28 : decode cX8_wear 28 = .ok (.iload_n 1, 1) := by decide +kernel
theorem dX8_wear_29 : decode cX8_wear 29 = .ok (.iconst 0, 1) := by decide +kernel
theorem dX8_wear_30 : decode cX8_wear 30 = .ok (.aload_n 0, 1) := by decide +kernel
theorem dX8_wear_31 : decode cX8_wear 31 = .ok (.getfield 28, 3) := by decide +kernel
theorem dX8_wear_34 : decode cX8_wear 34 = .ok (.iload_n 1, 1) := by decide +kernel
theorem dX8_wear_35 : decode cX8_wear 35 = .ok (.iaload, 1) := by decide +kernel
theorem dX8_wear_36 : decode cX8_wear 36 = .ok (.iconst 2, 1) := by decide +kernel
theorem dX8_wear_37 : decode cX8_wear 37 = .ok (.isub, 1) := by decide +kernel
theorem dX8_wear_38 : decode cX8_wear 38 = .ok (.invokestatic 50, 3) := by decide +kernel
theorem dX8_wear_41 : decode cX8_wear 41 = .ok (.iastore, 1) := by decide +kernel
theorem dX8_wear_42 : decode cX8_wear 42 = .ok (.return_, 1) := by decide +kernel
theorem dX8_timeOf_0 : decode cX8_timeOf 0 = .ok (.sipush 1000, 3) := by decide +kernel
theorem dX8_timeOf_3 : decode cX8_timeOf 3 = .ok (.aload_n 0, 1) := by decide +kernel
theorem dX8_timeOf_4 : decode cX8_timeOf 4 = .ok (.getfield 28, 3) := by decide +kernel
theorem dX8_timeOf_7 : decode cX8_timeOf 7 = .ok (.iload_n 1, 1) := by decide +kernel
theorem dX8_timeOf_8 : decode cX8_timeOf 8 = .ok (.iaload, 1) := by decide +kernel
theorem dX8_timeOf_9 : decode cX8_timeOf 9 = .ok (.isub, 1) := by decide +kernel
theorem dX8_timeOf_10 : decode cX8_timeOf 10 = .ok (.bipush 8, 2) := by decide +kernel
theorem dX8_timeOf_12 : decode cX8_timeOf 12 = .ok (.idiv, 1) := by decide +kernel
theorem dX8_timeOf_13 : decode cX8_timeOf 13 = .ok (.istore 5, 2) := by decide +kernel
theorem dX8_timeOf_15 : decode cX8_timeOf 15 = .ok (.aload_n 0, 1) := by decide +kernel
theorem dX8_timeOf_16 : decode cX8_timeOf 16 = .ok (.getfield 18, 3) := by decide +kernel
theorem dX8_timeOf_19 : decode cX8_timeOf 19 = .ok (.iload_n 1, 1) := by decide +kernel
theorem dX8_timeOf_20 : decode cX8_timeOf 20 = .ok (.iaload, 1) := by decide +kernel
theorem dX8_timeOf_21 : decode cX8_timeOf 21 = .ok (.iload 5, 2) := by decide +kernel
theorem dX8_timeOf_23 : decode cX8_timeOf 23 = .ok (.iadd, 1) := by decide +kernel
theorem dX8_timeOf_24 : decode cX8_timeOf 24 = .ok (.iconst 2, 1) := by decide +kernel
theorem dX8_timeOf_25 : decode cX8_timeOf 25 = .ok (.aload_n 0, 1) := by decide +kernel
theorem dX8_timeOf_26 : decode cX8_timeOf 26 = .ok (.getfield 31, 3) := by decide +kernel
theorem dX8_timeOf_29 : decode cX8_timeOf 29 = .ok (.iload_n 1, 1) := by decide +kernel
theorem dX8_timeOf_30 : decode cX8_timeOf 30 = .ok (.iaload, 1) := by decide +kernel
theorem dX8_timeOf_31 : decode cX8_timeOf 31 = .ok (.imul, 1) := by decide +kernel
theorem dX8_timeOf_32 : decode cX8_timeOf 32 = .ok (.iadd, 1) := by decide +kernel
theorem dX8_timeOf_33 : decode cX8_timeOf 33 = .ok (.iload 4, 2) := by decide +kernel
theorem dX8_timeOf_35 : decode cX8_timeOf 35 = .ok (.iadd, 1) := by decide +kernel
theorem dX8_timeOf_36 : decode cX8_timeOf 36 = .ok (.bipush 9, 2) := by decide +kernel
theorem dX8_timeOf_38 : decode cX8_timeOf 38 = .ok (.iload_n 3, 1) := by decide +kernel
theorem dX8_timeOf_39 : decode cX8_timeOf 39 = .ok (.isub, 1) := by decide +kernel
theorem dX8_timeOf_40 : decode cX8_timeOf 40 = .ok (.aload_n 0, 1) := by decide +kernel
theorem dX8_timeOf_41 : decode cX8_timeOf 41 = .ok (.getfield 22, 3) := by decide +kernel
theorem dX8_timeOf_44 : decode cX8_timeOf 44 = .ok (.iload_n 1, 1) := by decide +kernel
theorem dX8_timeOf_45 : decode cX8_timeOf 45 = .ok (.iaload, 1) := by decide +kernel
theorem dX8_timeOf_46 : decode cX8_timeOf 46 = .ok (.imul, 1) := by decide +kernel
theorem dX8_timeOf_47 : decode cX8_timeOf 47 = .ok (.iadd, 1) := by decide +kernel
theorem dX8_timeOf_48 : decode cX8_timeOf 48 = .ok (.iload_n 2, 1) := by decide +kernel
theorem dX8_timeOf_49 : decode cX8_timeOf 49 = .ok (.bipush 8, 2) := by decide +kernel
theorem dX8_timeOf_51 : decode cX8_timeOf 51 = .ok (.idiv, 1) := by decide +kernel
theorem dX8_timeOf_52 : decode cX8_timeOf 52 = .ok (.isub, 1) := by decide +kernel
theorem dX8_timeOf_53 : decode cX8_timeOf 53 = .ok (.istore 6, 2) := by decide +kernel
theorem dX8_timeOf_55 : decode cX8_timeOf 55 = .ok (.iconst 1, 1) := by decide +kernel
theorem dX8_timeOf_56 : decode cX8_timeOf 56 = .ok (.iload 6, 2) := by decide +kernel
theorem dX8_timeOf_58 : decode cX8_timeOf 58 = .ok (.invokestatic 50, 3) := by decide +kernel
theorem dX8_timeOf_61 : decode cX8_timeOf 61 = .ok (.ireturn, 1) := by decide +kernel
theorem dX8_setEye_0 : decode cX8_setEye 0 = .ok (.aload_n 0, 1) := by decide +kernel
theorem dX8_setEye_1 : decode cX8_setEye 1 = .ok (.getfield 37, 3) := by decide +kernel
theorem dX8_setEye_4 : decode cX8_setEye 4 = .ok (.iload_n 1, 1) := by decide +kernel
theorem dX8_setEye_5 : decode cX8_setEye 5 = .ok (.iconst 2, 1) := by decide +kernel
theorem dX8_setEye_6 : decode cX8_setEye 6 = .ok (.imul, 1) := by decide +kernel
theorem dX8_setEye_7 : decode cX8_setEye 7 = .ok (.iload_n 2, 1) := by decide +kernel
theorem dX8_setEye_8 : decode cX8_setEye 8 = .ok (.iadd, 1) := by decide +kernel
theorem dX8_setEye_9 : decode cX8_setEye 9 = .ok (.iload_n 3, 1) := by decide +kernel
theorem dX8_setEye_10 : decode cX8_setEye 10 = .ok (.iastore, 1) := by decide +kernel
theorem dX8_setEye_11 : decode cX8_setEye 11 = .ok (.return_, 1) := by decide +kernel
theorem dX8_timeAtGate_0 : decode cX8_timeAtGate 0 = .ok (.aload_n 0, 1) := by decide +kernel
theorem dX8_timeAtGate_1 : decode cX8_timeAtGate 1 = .ok (.getfield 37, 3) := by decide +kernel
theorem dX8_timeAtGate_4 : decode cX8_timeAtGate 4 = .ok (.iload_n 1, 1) := by decide +kernel
theorem dX8_timeAtGate_5 : decode cX8_timeAtGate 5 = .ok (.iconst 2, 1) := by decide +kernel
theorem dX8_timeAtGate_6 : decode cX8_timeAtGate 6 = .ok (.imul, 1) := by decide +kernel
theorem dX8_timeAtGate_7 : decode cX8_timeAtGate 7 = .ok (.iaload, 1) := by decide +kernel
theorem dX8_timeAtGate_8 : decode cX8_timeAtGate 8 = .ok (.istore_n 3, 1) := by decide +kernel
theorem dX8_timeAtGate_9 : decode cX8_timeAtGate 9 = .ok (.aload_n 0, 1) := by decide +kernel
theorem dX8_timeAtGate_10 : decode cX8_timeAtGate 10 = .ok (.getfield 37, 3) := by decide +kernel
theorem dX8_timeAtGate_13 : decode cX8_timeAtGate 13 = .ok (.iload_n 1, 1) := by decide +kernel
theorem dX8_timeAtGate_14 : decode cX8_timeAtGate 14 = .ok (.iconst 2, 1) := by decide +kernel
theorem dX8_timeAtGate_15 : decode cX8_timeAtGate 15 = .ok (.imul, 1) := by decide +kernel
theorem dX8_timeAtGate_16 : decode cX8_timeAtGate 16 = .ok (.iconst 1, 1) := by decide +kernel
theorem dX8_timeAtGate_17 : decode cX8_timeAtGate 17 = .ok (.iadd, 1) := by decide +kernel
theorem dX8_timeAtGate_18 : decode cX8_timeAtGate 18 = .ok (.iaload, 1) := by decide +kernel
theorem dX8_timeAtGate_19 : decode cX8_timeAtGate 19 = .ok (.istore 4, 2) := by decide +kernel
theorem dX8_timeAtGate_21 : decode cX8_timeAtGate 21 = .ok (.iload_n 3, 1) := by decide +kernel
theorem dX8_timeAtGate_22 : decode cX8_timeAtGate 22 = .ok (.bipush 100, 2) := by decide +kernel
theorem dX8_timeAtGate_24 : decode cX8_timeAtGate 24 = .ok (.if_icmp .eq 7, 3) := by decide +kernel
theorem dX8_timeAtGate_27 : decode cX8_timeAtGate 27 = .ok (.iload_n 2, 1) := by decide +kernel
theorem dX8_timeAtGate_28 : decode cX8_timeAtGate 28 = .ok (.iload_n 3, 1) := by decide +kernel
theorem dX8_timeAtGate_29 : decode cX8_timeAtGate 29 = .ok (.iadd, 1) := by decide +kernel
theorem dX8_timeAtGate_30 : decode cX8_timeAtGate 30 = .ok (.ireturn, 1) := by decide +kernel
theorem dX8_timeAtGate_31 : decode cX8_timeAtGate 31 = .ok (.iload 4, 2) := by decide +kernel
theorem dX8_timeAtGate_33 : decode cX8_timeAtGate 33 = .ok (.bipush 100, 2) := by decide +kernel
theorem dX8_timeAtGate_35 : decode cX8_timeAtGate 35 = .ok (.if_icmp .eq 10, 3) := by decide +kernel
theorem dX8_timeAtGate_38 : decode cX8_timeAtGate 38 = .ok (.iload_n 2, 1) := by decide +kernel
theorem dX8_timeAtGate_39 : decode cX8_timeAtGate 39 = .ok (.iload 4, 2) := by decide +kernel
theorem dX8_timeAtGate_41 : decode cX8_timeAtGate 41 = .ok (.iadd, 1) := by decide +kernel
theorem dX8_timeAtGate_42 : decode cX8_timeAtGate 42 = .ok (.goto 5, 3) := by decide +kernel
theorem dX8_timeAtGate_45 : decode cX8_timeAtGate 45 = .ok (.ldc 53, 2) := by decide +kernel
theorem dX8_timeAtGate_47 : decode cX8_timeAtGate 47 = .ok (.ireturn, 1) := by decide +kernel
theorem dX8_doubleAtGate_0 : decode cX8_doubleAtGate 0 = .ok (.aload_n 0, 1) := by decide +kernel
theorem dX8_doubleAtGate_1 : decode cX8_doubleAtGate 1 = .ok (.getfield 37, 3) := by decide +kernel
theorem dX8_doubleAtGate_4 : decode cX8_doubleAtGate 4 = .ok (.iload_n 1, 1) := by decide +kernel
theorem dX8_doubleAtGate_5 : decode cX8_doubleAtGate 5 = .ok (.iconst 2, 1) := by decide +kernel
theorem dX8_doubleAtGate_6 : decode cX8_doubleAtGate 6 = .ok (.imul, 1) := by decide +kernel
theorem dX8_doubleAtGate_7 : decode cX8_doubleAtGate 7 = .ok (.iaload, 1) := by decide +kernel
theorem dX8_doubleAtGate_8 : decode cX8_doubleAtGate 8 = .ok (.istore_n 2, 1) := by decide +kernel
theorem dX8_doubleAtGate_9 : decode cX8_doubleAtGate 9 = .ok (.aload_n 0, 1) := by decide +kernel
theorem dX8_doubleAtGate_10 : decode cX8_doubleAtGate 10 = .ok (.getfield 37, 3) := by decide +kernel
theorem dX8_doubleAtGate_13 : decode cX8_doubleAtGate 13 = .ok (.iload_n 1, 1) := by decide +kernel
theorem dX8_doubleAtGate_14 : decode cX8_doubleAtGate 14 = .ok (.iconst 2, 1) := by decide +kernel
theorem dX8_doubleAtGate_15 : decode cX8_doubleAtGate 15 = .ok (.imul, 1) := by decide +kernel
theorem dX8_doubleAtGate_16 : decode cX8_doubleAtGate 16 = .ok (.iconst 1, 1) := by decide +kernel
theorem dX8_doubleAtGate_17 : decode cX8_doubleAtGate 17 = .ok (.iadd, 1) := by decide +kernel
theorem dX8_doubleAtGate_18 : decode cX8_doubleAtGate 18 = .ok (.iaload, 1) := by decide +kernel
theorem dX8_doubleAtGate_19 : decode cX8_doubleAtGate 19 = .ok (.istore_n 3, 1) := by decide +kernel
theorem dX8_doubleAtGate_20 : decode cX8_doubleAtGate 20 = .ok (.iload_n 2, 1) := by decide +kernel
theorem dX8_doubleAtGate_21 : decode cX8_doubleAtGate 21 = .ok (.bipush 100, 2) := by decide +kernel
theorem dX8_doubleAtGate_23 : decode cX8_doubleAtGate 23 = .ok (.if_icmp .eq 9, 3) := by decide +kernel
theorem dX8_doubleAtGate_26 : decode cX8_doubleAtGate 26 = .ok (.iload_n 3, 1) := by decide +kernel
theorem dX8_doubleAtGate_27 : decode cX8_doubleAtGate 27 = .ok (.bipush 100, 2) := by decide +kernel
theorem dX8_doubleAtGate_29 : decode cX8_doubleAtGate 29 = .ok (.if_icmp .ne 7, 3) := by decide +kernel
theorem dX8_doubleAtGate_32 : decode cX8_doubleAtGate 32 = .ok (.iconst 0, 1) := by decide +kernel
theorem dX8_doubleAtGate_33 : decode cX8_doubleAtGate 33 = .ok (.goto 9, 3) := by decide +kernel
theorem dX8_doubleAtGate_36 : decode cX8_doubleAtGate 36 = .ok (.iload_n 2, 1) := by decide +kernel
theorem dX8_doubleAtGate_37 : decode cX8_doubleAtGate 37 = .ok (.iload_n 3, 1) := by decide +kernel
theorem dX8_doubleAtGate_38 : decode cX8_doubleAtGate 38 = .ok (.isub, 1) := by decide +kernel
theorem dX8_doubleAtGate_39 : decode cX8_doubleAtGate 39 = .ok (.invokestatic 54, 3) := by decide +kernel
theorem dX8_doubleAtGate_42 : decode cX8_doubleAtGate 42 = .ok (.ireturn, 1) := by decide +kernel
theorem dX10_init_0 : decode cX10_init 0 = .ok (.aload_n 0, 1) := by decide +kernel
theorem dX10_init_1 : decode cX10_init 1 = .ok (.invokespecial 1, 3) := by decide +kernel
theorem dX10_init_4 : decode cX10_init 4 = .ok (.aload_n 0, 1) := by decide +kernel
theorem dX10_init_5 : decode cX10_init 5 = .ok (.new 7, 3) := by decide +kernel
theorem dX10_init_8 : decode cX10_init 8 = .ok (.dup, 1) := by decide +kernel
theorem dX10_init_9 : decode cX10_init 9 = .ok (.invokespecial 9, 3) := by decide +kernel
theorem dX10_init_12 : decode cX10_init 12 = .ok (.putfield 10, 3) := by decide +kernel
theorem dX10_init_15 : decode cX10_init 15 = .ok (.aload_n 0, 1) := by decide +kernel
theorem dX10_init_16 : decode cX10_init 16 = .ok (.new 16, 3) := by decide +kernel
theorem dX10_init_19 : decode cX10_init 19 = .ok (.dup, 1) := by decide +kernel
theorem dX10_init_20 : decode cX10_init 20 = .ok (.invokespecial 18, 3) := by decide +kernel
theorem dX10_init_23 : decode cX10_init 23 = .ok (.putfield 19, 3) := by decide +kernel
theorem dX10_init_26 : decode cX10_init 26 = .ok (.aload_n 0, 1) := by decide +kernel
theorem dX10_init_27 : decode cX10_init 27 = .ok (.new 23, 3) := by decide +kernel
theorem dX10_init_30 : decode cX10_init 30 = .ok (.dup, 1) := by decide +kernel
theorem dX10_init_31 : decode cX10_init 31 = .ok (.invokespecial 25, 3) := by decide +kernel
theorem dX10_init_34 : decode cX10_init 34 = .ok (.putfield 26, 3) := by decide +kernel
theorem dX10_init_37 : decode cX10_init 37 = .ok (.aload_n 0, 1) := by decide +kernel
theorem dX10_init_38 : decode cX10_init 38 = .ok (.new 30, 3) := by decide +kernel
theorem dX10_init_41 : decode cX10_init 41 = .ok (.dup, 1) := by decide +kernel
theorem dX10_init_42 : decode cX10_init 42 = .ok (.invokespecial 32, 3) := by decide +kernel
theorem dX10_init_45 : decode cX10_init 45 = .ok (.putfield 33, 3) := by decide +kernel
theorem dX10_init_48 : decode cX10_init 48 = .ok (.aload_n 0, 1) := by decide +kernel
theorem dX10_init_49 : decode cX10_init 49 = .ok (.new 37, 3) := by decide +kernel
theorem dX10_init_52 : decode cX10_init 52 = .ok (.dup, 1) := by decide +kernel
theorem dX10_init_53 : decode cX10_init 53 = .ok (.invokespecial 39, 3) := by decide +kernel
theorem dX10_init_56 : decode cX10_init 56 = .ok (.putfield 40, 3) := by decide +kernel
theorem dX10_init_59 : decode cX10_init 59 = .ok (.aload_n 0, 1) := by decide +kernel
theorem dX10_init_60 : decode cX10_init 60 = .ok (.new 44, 3) := by decide +kernel
theorem dX10_init_63 : decode cX10_init 63 = .ok (.dup, 1) := by decide +kernel
theorem dX10_init_64 : decode cX10_init 64 = .ok (.invokespecial 46, 3) := by decide +kernel
theorem dX10_init_67 : decode cX10_init 67 = .ok (.putfield 47, 3) := by decide +kernel
theorem dX10_init_70 : decode cX10_init 70 = .ok (.aload_n 0, 1) := by decide +kernel
theorem dX10_init_71 : decode cX10_init 71 = .ok (.new 51, 3) := by decide +kernel
theorem dX10_init_74 : decode cX10_init 74 = .ok (.dup, 1) := by decide +kernel
theorem dX10_init_75 : decode cX10_init 75 = .ok (.invokespecial 53, 3) := by decide +kernel
theorem dX10_init_78 : decode cX10_init 78 = .ok (.putfield 54, 3) := by decide +kernel
theorem dX10_init_81 : decode cX10_init 81 = .ok (.aload_n 0, 1) := by decide +kernel
theorem dX10_init_82 : decode cX10_init 82 = .ok (.iconst 0, 1) := by decide +kernel
theorem dX10_init_83 : decode cX10_init 83 = .ok (.putfield 58, 3) := by decide +kernel
theorem dX10_init_86 : decode cX10_init 86 = .ok (.return_, 1) := by decide +kernel
theorem dX10_track_0 : decode cX10_track 0 = .ok (.iload_n 1, 1) := by decide +kernel
theorem dX10_track_1 : decode cX10_track 1 = .ok (.iconst 5, 1) := by decide +kernel
theorem dX10_track_2 : decode cX10_track 2 = .ok (.bipush 40, 2) := by decide +kernel
theorem dX10_track_4 : decode cX10_track 4 = .ok (.invokestatic 62, 3) := by decide +kernel
theorem dX10_track_7 : decode cX10_track 7 = .ok (.ifCond .eq 23, 3) := by decide +kernel
theorem dX10_track_10 : decode cX10_track 10 = .ok (.iload_n 2, 1) := by decide +kernel
theorem dX10_track_11 : decode cX10_track 11 = .ok (.iconst 2, 1) := by decide +kernel
theorem dX10_track_12 : decode cX10_track 12 = .ok (.bipush 6, 2) := by decide +kernel
theorem dX10_track_14 : decode cX10_track 14 = .ok (.invokestatic 62, 3) := by decide +kernel
theorem dX10_track_17 : decode cX10_track 17 = .ok (.ifCond .eq 13, 3) := by decide +kernel
theorem dX10_track_20 : decode cX10_track 20 = .ok (.aload_n 0, 1) := by decide +kernel
theorem dX10_track_21 : decode cX10_track 21 = .ok (.getfield 47, 3) := by decide +kernel
theorem dX10_track_24 : decode cX10_track 24 = .ok (.getfield 66, 3) := by decide +kernel
theorem dX10_track_27 : decode cX10_track 27 = .ok (.ifCond .eq 5, 3) := by decide +kernel
theorem dX10_track_30 : decode cX10_track 30 = .ok (.iconst 0, 1) := by decide +kernel
theorem dX10_track_31 : decode cX10_track 31 = .ok (.ireturn, 1) := by decide +kernel
theorem dX10_track_32 : decode cX10_track 32 = .ok (.aload_n 0, 1) := by decide +kernel
theorem dX10_track_33 : decode cX10_track 33 = .ok (.getfield 10, 3) := by decide +kernel
theorem dX10_track_36 : decode cX10_track 36 = .ok (.iload_n 1, 1) := by decide +kernel
theorem dX10_track_37 : decode cX10_track 37 = .ok (.iload_n 2, 1) := by decide +kernel
theorem dX10_track_38 : decode cX10_track 38 = .ok (.invokevirtual 70, 3) := by decide +kernel
theorem dX10_track_41 : decode cX10_track 41 = .ok (.iconst 1, 1) := by decide +kernel
theorem dX10_track_42 : decode cX10_track 42 = .ok (.ireturn, 1) := by decide +kernel
theorem dX10_bend_0 : decode cX10_bend 0 = .ok (.iload_n 2, 1) := by decide +kernel
theorem dX10_bend_1 : decode cX10_bend 1 = .ok (.bipush 50, 2) := by decide +kernel
theorem dX10_bend_3 : decode cX10_bend 3 = .ok (.sipush 500, 3) := by decide +kernel
theorem dX10_bend_6 : decode cX10_bend 6 = .ok (.invokestatic 62, 3) := by decide +kernel
theorem dX10_bend_9 : decode cX10_bend 9 = .ok (.ifCond .eq 28, 3) := by decide +kernel
theorem dX10_bend_12 : decode cX10_bend 12 = .ok (.iload_n 3, 1) := by decide +kernel
theorem dX10_bend_13 : decode cX10_bend 13 = .ok (.iconst 0, 1) := by decide +kernel
theorem dX10_bend_14 : decode cX10_bend 14 = .ok (.bipush 9, 2) := by decide +kernel
theorem dX10_bend_16 : decode cX10_bend 16 = .ok (.invokestatic 62, 3) := by decide +kernel
theorem dX10_bend_19 : decode cX10_bend 19 = .ok (.ifCond .eq 18, 3) := by decide +kernel
theorem dX10_bend_22 : decode cX10_bend 22 = .ok (.iload 4, 2) := by decide +kernel
theorem dX10_bend_24 : decode cX10_bend 24 = .ok (.iconst 0, 1) := by decide +kernel
theorem dX10_bend_25 : decode cX10_bend 25 = .ok (.bipush 9, 2) := by decide +kernel
theorem dX10_bend_27 : decode cX10_bend 27 = .ok (.invokestatic 62, 3) := by decide +kernel
theorem dX10_bend_30 : decode cX10_bend 30 = .ok (.ifCond .eq 7, 3) := by decide +kernel
theorem dX10_bend_33 : decode cX10_bend 33 = .ok (.iconst 1, 1) := by decide +kernel
theorem dX10_bend_34 : decode cX10_bend 34 = .ok (.goto 4, 3) := by decide +kernel
theorem dX10_bend_37 : decode cX10_bend 37 = .ok (.iconst 0, 1) := by decide +kernel
theorem dX10_bend_38 : decode cX10_bend 38 = .ok (.istore 5, 2) := by decide +kernel
theorem dX10_bend_40 : decode cX10_bend 40 = .ok (.iload 5, 2) := by decide +kernel
theorem dX10_bend_42 : decode cX10_bend 42 = .ok (.ifCond .eq 25, 3) := by decide +kernel
theorem dX10_bend_45 : decode cX10_bend 45 = .ok (.aload_n 0, 1) := by decide +kernel
theorem dX10_bend_46 : decode cX10_bend 46 = .ok (.getfield 10, 3) := by decide +kernel
theorem dX10_bend_49 : decode cX10_bend 49 = .ok (.iload_n 1, 1) := by decide +kernel
theorem dX10_bend_50 : decode cX10_bend 50 = .ok (.invokevirtual 74, 3) := by decide +kernel
theorem dX10_bend_53 : decode cX10_bend 53 = .ok (.ifCond .eq 14, 3) := by decide +kernel
theorem dX10_bend_56 : decode cX10_bend 56 = .ok (.aload_n 0, 1) := by decide +kernel
theorem dX10_bend_57 : decode cX10_bend 57 = .ok (.getfield 47, 3) := by decide +kernel
theorem dX10_bend_60 : decode cX10_bend 60 = .ok (.getfield 78, 3) := by decide +kernel
theorem dX10_bend_63 : decode cX10_bend 63 = .ok (.iconst (-1), 1) := by decide +kernel
theorem dX10_bend_64 : decode cX10_bend 64 = .ok (.if_icmp .eq 5, 3) := by decide +kernel
theorem dX10_bend_67 : decode cX10_bend 67 = .ok (.iconst 0, 1) := by decide +kernel
theorem dX10_bend_68 : decode cX10_bend 68 = .ok (.ireturn, 1) := by decide +kernel
theorem dX10_bend_69 : decode cX10_bend 69 = .ok (.aload_n 0, 1) := by decide +kernel
theorem dX10_bend_70 : decode cX10_bend 70 = .ok (.getfield 10, 3) := by decide +kernel
theorem dX10_bend_73 : decode cX10_bend 73 = .ok (.iload_n 1, 1) := by decide +kernel
theorem dX10_bend_74 : decode cX10_bend 74 = .ok (.iload_n 2, 1) := by decide +kernel
theorem dX10_bend_75 : decode cX10_bend 75 = .ok (.iload_n 3, 1) := by decide +kernel
theorem dX10_bend_76 : decode cX10_bend 76 = .ok (.iload 4, 2) := by decide +kernel
theorem dX10_bend_78 : decode cX10_bend 78 = .ok (.invokevirtual 81, 3) := by decide +kernel
theorem dX10_bend_81 : decode cX10_bend 81 = .ok (.iconst 1, 1) := by decide +kernel
theorem dX10_bend_82 : decode cX10_bend 82 = .ok (.ireturn, 1) := by decide +kernel
theorem dX10_runners_0 : decode cX10_runners 0 = .ok (.iload_n 1, 1) := by decide +kernel
theorem dX10_runners_1 : decode cX10_runners 1 = .ok (.iconst 0, 1) := by decide +kernel
theorem dX10_runners_2 : decode cX10_runners 2 = .ok (.iconst 3, 1) := by decide +kernel
theorem dX10_runners_3 : decode cX10_runners 3 = .ok (.invokestatic 62, 3) := by decide +kernel
theorem dX10_runners_6 : decode cX10_runners 6 = .ok (.ifCond .eq 12, 3) := by decide +kernel
theorem dX10_runners_9 : decode cX10_runners 9 = .ok (.iload_n 2, 1) := by decide +kernel
theorem dX10_runners_10 : decode cX10_runners 10 = .ok (.iconst 0, 1) := by decide +kernel
theorem dX10_runners_11 : decode cX10_runners 11 = .ok (.iconst 3, 1) := by decide +kernel
theorem dX10_runners_12 : decode cX10_runners 12 = .ok (.invokestatic 62, 3) := by decide +kernel
theorem dX10_runners_15 : decode cX10_runners 15 = .ok (.ifCond .ne 5, 3) := by decide +kernel
theorem dX10_runners_18 : decode cX10_runners 18 = .ok (.iconst 0, 1) := by decide +kernel
theorem dX10_runners_19 : decode cX10_runners 19 = .ok (.ireturn, 1) := by decide +kernel
theorem dX10_runners_20 : decode cX10_runners 20 = .ok (.iload_n 3, 1) := by decide +kernel
theorem dX10_runners_21 : decode cX10_runners 21 = .ok (.bipush 9, 2) := by decide +kernel
theorem dX10_runners_23 : decode cX10_runners 23 = .ok (.if_icmp .gt 12, 3) := by decide +kernel
theorem dX10_runners_26 : decode cX10_runners 26 = .ok (.iload_n 2, 1) := by decide +kernel
theorem dX10_runners_27 : decode cX10_runners 27 = .ok (.iconst 3, 1) := by decide +kernel
theorem dX10_runners_28 : decode cX10_runners 28 = .ok (.if_icmp .eq 9, 3) := by decide +kernel
theorem dX10_runners_31 : decode cX10_runners 31 = .ok (.iload_n 3, 1) := by decide +kernel
theorem dX10_runners_32 : decode cX10_runners 32 = .ok (.ifCond .ge 5, 3) := by decide +kernel
theorem dX10_runners_35 : decode cX10_runners 35 = .ok (.iconst 0, 1) := by decide +kernel
theorem dX10_runners_36 : decode cX10_runners 36 = .ok (.ireturn, 1) := by decide +kernel
theorem dX10_runners_37 : decode cX10_runners 37 = .ok (.aload_n 0, 1) := by decide +kernel
theorem dX10_runners_38 : decode cX10_runners 38 = .ok (.getfield 19, 3) := by decide +kernel
theorem dX10_runners_41 : decode cX10_runners 41 = .ok (.iload_n 1, 1) := by decide +kernel
theorem dX10_runners_42 : decode cX10_runners 42 = .ok (.iload_n 2, 1) := by decide +kernel
theorem dX10_runners_43 : decode cX10_runners 43 = .ok (.iload_n 3, 1) := by decide +kernel
theorem dX10_runners_44 : decode cX10_runners 44 = .ok (.iload 4, 2) := by decide +kernel
theorem dX10_runners_46 : decode cX10_runners 46 = .ok (.iload 5, 2) := by decide +kernel
theorem dX10_runners_48 : decode cX10_runners 48 = .ok (.invokevirtual 85, 3) := by decide +kernel
theorem dX10_runners_51 : decode cX10_runners 51 = .ok (.iconst 1, 1) := by decide +kernel
theorem dX10_runners_52 : decode cX10_runners 52 = .ok (.ireturn, 1) := by decide +kernel
theorem dX10_copy_0 : decode cX10_copy 0 = .ok (.iload_n 1, 1) := by decide +kernel
theorem dX10_copy_1 : decode cX10_copy 1 = .ok (.iconst 0, 1) := by decide +kernel
theorem dX10_copy_2 : decode cX10_copy 2 = .ok (.iconst 3, 1) := by decide +kernel
theorem dX10_copy_3 : decode cX10_copy 3 = .ok (.invokestatic 62, 3) := by decide +kernel
theorem dX10_copy_6 : decode cX10_copy 6 = .ok (.ifCond .eq 12, 3) := by decide +kernel
theorem dX10_copy_9 : decode cX10_copy 9 = .ok (.iload_n 3, 1) := by decide +kernel
theorem dX10_copy_10 : decode cX10_copy 10 = .ok (.iconst 0, 1) := by decide +kernel
theorem dX10_copy_11 : decode cX10_copy 11 = .ok (.iconst 3, 1) := by decide +kernel
theorem dX10_copy_12 : decode cX10_copy 12 = .ok (.invokestatic 62, 3) := by decide +kernel
theorem dX10_copy_15 : decode cX10_copy 15 = .ok (.ifCond .ne 5, 3) := by decide +kernel
theorem dX10_copy_18 : decode cX10_copy 18 = .ok (.iconst (-1), 1) := by decide +kernel
theorem dX10_copy_19 : decode cX10_copy 19 = .ok (.ireturn, 1) := by decide +kernel
theorem dX10_copy_20 : decode cX10_copy 20 = .ok (.aload_n 0, 1) := by decide +kernel
theorem dX10_copy_21 : decode cX10_copy 21 = .ok (.getfield 19, 3) := by decide +kernel
theorem dX10_copy_24 : decode cX10_copy 24 = .ok (.iload_n 1, 1) := by decide +kernel
theorem dX10_copy_25 : decode cX10_copy 25 = .ok (.invokevirtual 89, 3) := by decide +kernel
theorem dX10_copy_28 : decode cX10_copy 28 = .ok (.ifCond .ne 14, 3) := by decide +kernel
theorem dX10_copy_31 : decode cX10_copy 31 = .ok (.aload_n 0, 1) := by decide +kernel
theorem dX10_copy_32 : decode cX10_copy 32 = .ok (.getfield 19, 3) := by decide +kernel
theorem dX10_copy_35 : decode cX10_copy 35 = .ok (.iload_n 3, 1) := by decide +kernel
theorem dX10_copy_36 : decode cX10_copy 36 = .ok (.invokevirtual 89, 3) := by decide +kernel
theorem dX10_copy_39 : decode cX10_copy 39 = .ok (.ifCond .eq 6, 3) := by decide +kernel
theorem dX10_copy_42 : decode cX10_copy 42 = .ok (.bipush (-2), 2) := by decide +kernel
theorem dX10_copy_44 : decode cX10_copy 44 = .ok (.ireturn, 1) := by decide +kernel
theorem dX10_copy_45 : decode cX10_copy 45 = .ok (.aload_n 0, 1) := by decide +kernel
theorem dX10_copy_46 : decode cX10_copy 46 = .ok (.getfield 19, 3) := by decide +kernel
theorem dX10_copy_49 : decode cX10_copy 49 = .ok (.iload_n 1, 1) := by decide +kernel
theorem dX10_copy_50 : decode cX10_copy 50 = .ok (.iload_n 3, 1) := by decide +kernel
theorem dX10_copy_51 : decode cX10_copy 51 = .ok (.invokevirtual 92, 3) := by decide +kernel
theorem dX10_copy_54 : decode cX10_copy 54 = .ok (.ifCond .ne 6, 3) := by decide +kernel
theorem dX10_copy_57 : decode cX10_copy 57 = .ok (.bipush (-3), 2) := by decide +kernel
theorem dX10_copy_59 : decode cX10_copy 59 = .ok (.ireturn, 1) := by decide +kernel
theorem dX10_copy_60 : decode cX10_copy 60 = .ok (.aload_n 0, 1) := by decide +kernel
theorem dX10_copy_61 : decode cX10_copy 61 = .ok (.getfield 19, 3) := by decide +kernel
theorem dX10_copy_64 : decode cX10_copy 64 = .ok (.iload_n 1, 1) := by decide +kernel
theorem dX10_copy_65 : decode cX10_copy 65 = .ok (.iload_n 2, 1) := by decide +kernel
theorem dX10_copy_66 : decode cX10_copy 66 = .ok (.iload 5, 2) := by decide +kernel
theorem dX10_copy_68 : decode cX10_copy 68 = .ok (.invokevirtual 96, 3) := by decide +kernel
theorem dX10_copy_71 : decode cX10_copy 71 = .ok (.ifCond .eq 18, 3) := by decide +kernel
theorem dX10_copy_74 : decode cX10_copy 74 = .ok (.aload_n 0, 1) := by decide +kernel
theorem dX10_copy_75 : decode cX10_copy 75 = .ok (.getfield 19, 3) := by decide +kernel
theorem dX10_copy_78 : decode cX10_copy 78 = .ok (.iload_n 3, 1) := by decide +kernel
theorem dX10_copy_79 : decode cX10_copy 79 = .ok (.iload 4, 2) := by decide +kernel
theorem dX10_copy_81 : decode cX10_copy 81 = .ok (.iload 5, 2) := by decide +kernel
theorem dX10_copy_83 : decode cX10_copy 83 = .ok (.invokevirtual 96, 3) := by decide +kernel
theorem dX10_copy_86 : decode cX10_copy 86 = .ok (.ifCond .ne 6, 3) := by decide +kernel
theorem dX10_copy_89 : decode cX10_copy 89 = .ok (.bipush (-4), 2) := by decide +kernel
theorem dX10_copy_91 : decode cX10_copy 91 = .ok (.ireturn, 1) := by decide +kernel
theorem dX10_copy_92 : decode cX10_copy 92 = .ok (.aload_n 0, 1) := by decide +kernel
theorem dX10_copy_93 : decode cX10_copy 93 = .ok (.getfield 19, 3) := by decide +kernel
theorem dX10_copy_96 : decode cX10_copy 96 = .ok (.iload_n 1, 1) := by decide +kernel
theorem dX10_copy_97 : decode cX10_copy 97 = .ok (.iload_n 2, 1) := by decide +kernel
theorem dX10_copy_98 : decode cX10_copy 98 = .ok (.iload_n 3, 1) := by decide +kernel
theorem dX10_copy_99 : decode cX10_copy 99 = .ok (.iload 4, 2) := by decide +kernel
theorem dX10_copy_101 : decode cX10_copy 101 = .ok (.iload 5, 2) := by decide +kernel
theorem dX10_copy_103 : decode cX10_copy 103 = .ok (.invokevirtual 99, 3) := by decide +kernel
theorem dX10_copy_106 : decode cX10_copy 106 = .ok (.iload 5, 2) := by decide +kernel
theorem dX10_copy_108 : decode cX10_copy 108 = .ok (.ireturn, 1) := by decide +kernel
theorem dX10_glide_0 : decode cX10_glide 0 = .ok (.iload_n 1, 1) := by decide +kernel
theorem dX10_glide_1 : decode cX10_glide 1 = .ok (.iconst 0, 1) := by decide +kernel
theorem dX10_glide_2 : decode cX10_glide 2 = .ok (.iconst 3, 1) := by decide +kernel
theorem dX10_glide_3 : decode cX10_glide 3 = .ok (.invokestatic 62, 3) := by decide +kernel
theorem dX10_glide_6 : decode cX10_glide 6 = .ok (.ifCond .eq 14, 3) := by decide +kernel
theorem dX10_glide_9 : decode cX10_glide 9 = .ok (.iload_n 2, 1) := by decide +kernel
theorem dX10_glide_10 : decode cX10_glide 10 = .ok (.iconst 0, 1) := by decide +kernel
theorem dX10_glide_11 : decode cX10_glide 11 = .ok (.sipush 1000, 3) := by decide +kernel
theorem dX10_glide_14 : decode cX10_glide 14 = .ok (.invokestatic 62, 3) := by decide +kernel
theorem dX10_glide_17 : decode cX10_glide 17 = .ok (.ifCond .ne 13, 3) := by decide +kernel
theorem dX10_glide_20 : decode cX10_glide 20 = .ok (.new 102, 3) := by decide +kernel
theorem dX10_glide_23 : decode cX10_glide 23 = .ok (.dup, 1) := by decide +kernel
theorem dX10_glide_24 : decode cX10_glide 24 = .ok (.ldc 104, 2) := by decide +kernel
theorem dX10_glide_26 : decode cX10_glide 26 = .ok (.invokespecial 106, 3) := by decide +kernel
theorem dX10_glide_29 : decode cX10_glide 29 = .ok (.athrow, 1) := by decide +kernel
theorem dX10_glide_30 : decode cX10_glide 30 = .ok (.aload_n 0, 1) := by decide +kernel
theorem dX10_glide_31 : decode cX10_glide 31 = .ok (.getfield 19, 3) := by decide +kernel
theorem dX10_glide_34 : decode cX10_glide 34 = .ok (.iload_n 1, 1) := by decide +kernel
theorem dX10_glide_35 : decode cX10_glide 35 = .ok (.iload_n 2, 1) := by decide +kernel
theorem dX10_glide_36 : decode cX10_glide 36 = .ok (.invokevirtual 109, 3) := by decide +kernel
theorem dX10_glide_39 : decode cX10_glide 39 = .ok (.ireturn, 1) := by decide +kernel
theorem dX10_weather_0 : decode cX10_weather 0 = .ok (.iload_n 1, 1) := by decide +kernel
theorem dX10_weather_1 : decode cX10_weather 1 = .ok (.iconst 1, 1) := by decide +kernel
theorem dX10_weather_2 : decode cX10_weather 2 = .ok (.sipush 600, 3) := by decide +kernel
theorem dX10_weather_5 : decode cX10_weather 5 = .ok (.invokestatic 62, 3) := by decide +kernel
theorem dX10_weather_8 : decode cX10_weather 8 = .ok (.ifCond .eq 27, 3) := by decide +kernel
theorem dX10_weather_11 : decode cX10_weather 11 = .ok (.iload_n 2, 1) := by decide +kernel
theorem dX10_weather_12 : decode cX10_weather 12 = .ok (.bipush (-30), 2) := by decide +kernel
theorem dX10_weather_14 : decode cX10_weather 14 = .ok (.bipush 30, 2) := by decide +kernel
theorem dX10_weather_16 : decode cX10_weather 16 = .ok (.invokestatic 62, 3) := by decide +kernel
theorem dX10_weather_19 : decode cX10_weather 19 = .ok (.ifCond .eq 16, 3) := by decide +kernel
theorem dX10_weather_22 : decode cX10_weather 22 = .ok (.iload_n 3, 1) := by decide +kernel
theorem dX10_weather_23 : decode cX10_weather 23 = .ok (.iconst 0, 1) := by decide +kernel
theorem dX10_weather_24 : decode cX10_weather 24 = .ok (.iconst 3, 1) := by decide +kernel
theorem dX10_weather_25 : decode cX10_weather 25 = .ok (.invokestatic 62, 3) := by decide +kernel
theorem dX10_weather_28 : decode cX10_weather 28 = .ok (.ifCond .eq 7, 3) := by decide +kernel
theorem dX10_weather_31 : decode cX10_weather 31 = .ok (.iconst 1, 1) := by decide +kernel
theorem dX10_weather_32 : decode cX10_weather 32 = .ok (.goto 4, 3) := by decide +kernel
theorem dX10_weather_35 : decode cX10_weather 35 = .ok (.iconst 0, 1) := by decide +kernel
theorem dX10_weather_36 : decode cX10_weather 36 = .ok (.istore 4, 2) := by decide +kernel
theorem dX10_weather_38 : decode cX10_weather 38 = .ok (.iload 4, 2) := by decide +kernel
theorem dX10_weather_40 : decode cX10_weather 40 = .ok (.ifCond .eq 13, 3) := by decide +kernel
theorem dX10_weather_43 : decode cX10_weather 43 = .ok (.aload_n 0, 1) := by decide +kernel
theorem dX10_weather_44 : decode cX10_weather 44 = .ok (.getfield 10, 3) := by decide +kernel
theorem dX10_weather_47 : decode cX10_weather 47 = .ok (.getfield 113, 3) := by decide +kernel
theorem dX10_weather_50 : decode cX10_weather 50 = .ok (.ifCond .ne 5, 3) := by decide +kernel
theorem dX10_weather_53 : decode cX10_weather 53 = .ok (.iconst 0, 1) := by decide +kernel
theorem dX10_weather_54 : decode cX10_weather 54 = .ok (.ireturn, 1) := by decide +kernel
theorem dX10_weather_55 : decode cX10_weather 55 = .ok (.aload_n 0, 1) := by decide +kernel
theorem dX10_weather_56 : decode cX10_weather 56 = .ok (.getfield 10, 3) := by decide +kernel
theorem dX10_weather_59 : decode cX10_weather 59 = .ok (.iload_n 1, 1) := by decide +kernel
theorem dX10_weather_60 : decode cX10_weather 60 = .ok (.iload_n 2, 1) := by decide +kernel
theorem dX10_weather_61 : decode cX10_weather 61 = .ok (.iload_n 3, 1) := by decide +kernel
theorem dX10_weather_62 : decode cX10_weather 62 = .ok (.invokevirtual 116, 3) := by decide +kernel
theorem dX10_weather_65 : decode cX10_weather 65 = .ok (.iconst 1, 1) := by decide +kernel
theorem dX10_weather_66 : decode cX10_weather 66 = .ok (.ireturn, 1) := by decide +kernel
theorem dX10_water_0 : decode cX10_water 0 = .ok (.iload_n 1, 1) := by decide +kernel
theorem dX10_water_1 : decode cX10_water 1 = .ok (.ifCond .lt 19, 3) := by decide +kernel
theorem dX10_water_4 : decode cX10_water 4 = .ok (.iload_n 1, 1) := by decide +kernel
theorem dX10_water_5 : decode cX10_water 5 = .ok (.iload_n 2, 1) := by decide +kernel
theorem dX10_water_6 : decode cX10_water 6 = .ok (.if_icmp .ge 14, 3) := by decide +kernel
theorem dX10_water_9 : decode cX10_water 9 = .ok (.iload_n 2, 1) := by decide +kernel
theorem dX10_water_10 : decode cX10_water 10 = .ok (.aload_n 0, 1) := by decide +kernel
theorem dX10_water_11 : decode cX10_water 11 = .ok (.getfield 10, 3) := by decide +kernel
theorem dX10_water_14 : decode cX10_water 14 = .ok (.getfield 113, 3) := by decide +kernel
theorem dX10_water_17 : decode cX10_water 17 = .ok (.if_icmp .le 5, 3) := by decide +kernel
theorem dX10_water_20 : decode cX10_water 20 = .ok (.iconst 0, 1) := by decide +kernel
theorem dX10_water_21 : decode cX10_water 21 = .ok (.ireturn, 1) := by decide +kernel
theorem dX10_water_22 : decode cX10_water 22 = .ok (.aload_n 0, 1) := by decide +kernel
theorem dX10_water_23 : decode cX10_water 23 = .ok (.getfield 10, 3) := by decide +kernel
theorem dX10_water_26 : decode cX10_water 26 = .ok (.iload_n 1, 1) := by decide +kernel
theorem dX10_water_27 : decode cX10_water 27 = .ok (.iload_n 2, 1) := by decide +kernel
theorem dX10_water_28 : decode cX10_water 28 = .ok (.invokevirtual 120, 3) := by decide +kernel
theorem dX10_water_31 : decode cX10_water 31 = .ok (.iconst 1, 1) := by decide +kernel
theorem dX10_water_32 : decode cX10_water 32 = .ok (.ireturn, 1) := by decide +kernel
theorem dX10_cell_0 : decode cX10_cell 0 = .ok (.aload_n 0, 1) := by decide +kernel
theorem dX10_cell_1 : decode cX10_cell 1 = .ok (.getfield 10, 3) := by decide +kernel
theorem dX10_cell_4 : decode cX10_cell 4 = .ok (.iload_n 1, 1) := by decide +kernel
theorem dX10_cell_5 : decode cX10_cell 5 = .ok (.invokevirtual 74, 3) := by decide +kernel
theorem dX10_cell_8 : decode cX10_cell 8 = .ok (.ifCond .eq 15, 3) := by decide +kernel
theorem dX10_cell_11 : decode cX10_cell 11 = .ok (.aload_n 0, 1) := by decide +kernel
theorem dX10_cell_12 : decode cX10_cell 12 = .ok (.getfield 10, 3) := by decide +kernel
theorem dX10_cell_15 : decode cX10_cell 15 = .ok (.iload_n 1, 1) := by decide +kernel
theorem dX10_cell_16 : decode cX10_cell 16 = .ok (.iload_n 2, 1) := by decide +kernel
theorem dX10_cell_17 : decode cX10_cell 17 = .ok (.invokevirtual 123, 3) := by decide +kernel
theorem dX10_cell_20 : decode cX10_cell 20 = .ok (.goto 4, 3) := by decide +kernel
theorem dX10_cell_23 : decode cX10_cell 23 = .ok (.iconst (-1), 1) := by decide +kernel
theorem dX10_cell_24 : decode cX10_cell 24 = .ok (.ireturn, 1) := by decide +kernel
theorem dX10_standard_0 : decode cX10_standard 0 = .ok (.aload_n 0, 1) := by decide +kernel
theorem dX10_standard_1 : decode cX10_standard 1 = .ok (.invokevirtual 126, 3) := by decide +kernel
theorem dX10_standard_4 : decode cX10_standard 4 = .ok (.ireturn, 1) := by decide +kernel
theorem dX10_eye_0 : decode cX10_eye 0 = .ok (.iload_n 3, 1) := by decide +kernel
theorem dX10_eye_1 : decode cX10_eye 1 = .ok (.bipush (-50), 2) := by decide +kernel
theorem dX10_eye_3 : decode cX10_eye 3 = .ok (.bipush 50, 2) := by decide +kernel
theorem dX10_eye_5 : decode cX10_eye 5 = .ok (.invokestatic 62, 3) := by decide +kernel
theorem dX10_eye_8 : decode cX10_eye 8 = .ok (.ifCond .ne 9, 3) := by decide +kernel
theorem dX10_eye_11 : decode cX10_eye 11 = .ok (.iload_n 3, 1) := by decide +kernel
theorem dX10_eye_12 : decode cX10_eye 12 = .ok (.bipush 100, 2) := by decide +kernel
theorem dX10_eye_14 : decode cX10_eye 14 = .ok (.if_icmp .ne 7, 3) := by decide +kernel
theorem dX10_eye_17 : decode cX10_eye 17 = .ok (.iconst 1, 1) := by decide +kernel
theorem dX10_eye_18 : decode cX10_eye 18 = .ok (.goto 4, 3) := by decide +kernel
theorem dX10_eye_21 : decode cX10_eye 21 = .ok (.iconst 0, 1) := by decide +kernel
theorem dX10_eye_22 : decode cX10_eye 22 = .ok (.istore 4, 2) := by decide +kernel
theorem dX10_eye_24 : decode cX10_eye 24 = .ok (.iload 4, 2) := by decide +kernel
theorem dX10_eye_26 : decode cX10_eye 26 = .ok (.ifCond .eq 29, 3) := by decide +kernel
theorem dX10_eye_29 : decode cX10_eye 29 = .ok (.iload_n 1, 1) := by decide +kernel
theorem dX10_eye_30 : decode cX10_eye 30 = .ok (.iconst 1, 1) := by decide +kernel
theorem dX10_eye_31 : decode cX10_eye 31 = .ok (.aload_n 0, 1) := by decide +kernel
theorem dX10_eye_32 : decode cX10_eye 32 = .ok (.getfield 10, 3) := by decide +kernel
theorem dX10_eye_35 : decode cX10_eye 35 = .ok (.getfield 130, 3) := by decide +kernel
theorem dX10_eye_38 : decode cX10_eye 38 = .ok (.iconst 1, 1) := by decide +kernel
theorem dX10_eye_39 : decode cX10_eye 39 = .ok (.isub, 1) := by decide +kernel
theorem dX10_eye_40 : decode cX10_eye 40 = .ok (.invokestatic 62, 3) := by decide +kernel
theorem dX10_eye_43 : decode cX10_eye 43 = .ok (.ifCond .eq 12, 3) := by decide +kernel
theorem dX10_eye_46 : decode cX10_eye 46 = .ok (.iload_n 2, 1) := by decide +kernel
theorem dX10_eye_47 : decode cX10_eye 47 = .ok (.iconst 0, 1) := by decide +kernel
theorem dX10_eye_48 : decode cX10_eye 48 = .ok (.iconst 1, 1) := by decide +kernel
theorem dX10_eye_49 : decode cX10_eye 49 = .ok (.invokestatic 62, 3) := by decide +kernel
theorem dX10_eye_52 : decode cX10_eye 52 = .ok (.ifCond .ne 5, 3) := by decide +kernel
theorem dX10_eye_55 : decode cX10_eye 55 = .ok (.iconst 0, 1) := by decide +kernel
theorem dX10_eye_56 : decode cX10_eye 56 = .ok (.ireturn, 1) := by decide +kernel
theorem dX10_eye_57 : decode cX10_eye 57 = .ok (.aload_n 0, 1) := by decide +kernel
theorem dX10_eye_58 : decode cX10_eye 58 = .ok (.getfield 10, 3) := by decide +kernel
theorem dX10_eye_61 : decode cX10_eye 61 = .ok (.iload_n 1, 1) := by decide +kernel
theorem dX10_eye_62 : decode cX10_eye 62 = .ok (.iload_n 2, 1) := by decide +kernel
theorem dX10_eye_63 : decode cX10_eye 63 = .ok (.iload_n 3, 1) := by decide +kernel
theorem dX10_eye_64 : decode cX10_eye 64 = .ok (.invokevirtual 133, 3) := by decide +kernel
theorem dX10_eye_67 : decode cX10_eye 67 = .ok (.iconst 1, 1) := by decide +kernel
theorem dX10_eye_68 : decode cX10_eye 68 = .ok (.ireturn, 1) := by decide +kernel
theorem dX10_sled_0 : decode cX10_sled 0 = .ok (.iload_n 1, 1) := by decide +kernel
theorem dX10_sled_1 : decode cX10_sled 1 = .ok (.iconst 0, 1) := by decide +kernel
theorem dX10_sled_2 : decode cX10_sled 2 = .ok (.iconst 3, 1) := by decide +kernel
theorem dX10_sled_3 : decode cX10_sled 3 = .ok (.invokestatic 62, 3) := by decide +kernel
theorem dX10_sled_6 : decode cX10_sled 6 = .ok (.ifCond .eq 39, 3) := by decide +kernel
theorem dX10_sled_9 : decode cX10_sled 9 = .ok (.iload_n 2, 1) := by decide +kernel
theorem dX10_sled_10 : decode cX10_sled 10 = .ok (.bipush 50, 2) := by decide +kernel
theorem dX10_sled_12 : decode cX10_sled 12 = .ok (.sipush 200, 3) := by decide +kernel
theorem dX10_sled_15 : decode cX10_sled 15 = .ok (.invokestatic 62, 3) := by decide +kernel
theorem dX10_sled_18 : decode cX10_sled 18 = .ok (.ifCond .eq 27, 3) := by decide +kernel
theorem dX10_sled_21 : decode cX10_sled 21 = .ok (.iload_n 3, 1) := by decide +kernel
theorem dX10_sled_22 : decode cX10_sled 22 = .ok (.iconst 0, 1) := by decide +kernel
theorem dX10_sled_23 : decode cX10_sled 23 = .ok (.iconst 3, 1) := by decide +kernel
theorem dX10_sled_24 : decode cX10_sled 24 = .ok (.invokestatic 62, 3) := by decide +kernel
theorem dX10_sled_27 : decode cX10_sled 27 = .ok (.ifCond .eq 18, 3) := by decide +kernel
theorem dX10_sled_30 : decode cX10_sled 30 = .ok (.iload 4, 2) := by decide +kernel
theorem dX10_sled_32 : decode cX10_sled 32 = .ok (.iconst 0, 1) := by decide +kernel
theorem dX10_sled_33 : decode cX10_sled 33 = .ok (.bipush 9, 2) := by decide +kernel
theorem dX10_sled_35 : decode cX10_sled 35 = .ok (.invokestatic 62, 3) := by decide +kernel
theorem dX10_sled_38 : decode cX10_sled 38 = .ok (.ifCond .eq 7, 3) := by decide +kernel
theorem dX10_sled_41 : decode cX10_sled 41 = .ok (.iconst 1, 1) := by decide +kernel
theorem dX10_sled_42 : decode cX10_sled 42 = .ok (.goto 4, 3) := by decide +kernel
theorem dX10_sled_45 : decode cX10_sled 45 = .ok (.iconst 0, 1) := by decide +kernel
theorem dX10_sled_46 : decode cX10_sled 46 = .ok (.istore 5, 2) := by decide +kernel
theorem dX10_sled_48 : decode cX10_sled 48 = .ok (.iload 5, 2) := by decide +kernel
theorem dX10_sled_50 : decode cX10_sled 50 = .ok (.ifCond .eq 15, 3) := by decide +kernel
theorem dX10_sled_53 : decode cX10_sled 53 = .ok (.aload_n 0, 1) := by decide +kernel
theorem dX10_sled_54 : decode cX10_sled 54 = .ok (.getfield 26, 3) := by decide +kernel
theorem dX10_sled_57 : decode cX10_sled 57 = .ok (.getfield 136, 3) := by decide +kernel
theorem dX10_sled_60 : decode cX10_sled 60 = .ok (.bipush 16, 2) := by decide +kernel
theorem dX10_sled_62 : decode cX10_sled 62 = .ok (.if_icmp .lt 5, 3) := by decide +kernel
theorem dX10_sled_65 : decode cX10_sled 65 = .ok (.iconst (-1), 1) := by decide +kernel
theorem dX10_sled_66 : decode cX10_sled 66 = .ok (.ireturn, 1) := by decide +kernel
theorem dX10_sled_67 : decode cX10_sled 67 = .ok (.aload_n 0, 1) := by decide +kernel
theorem dX10_sled_68 : decode cX10_sled 68 = .ok (.getfield 26, 3) := by decide +kernel
theorem dX10_sled_71 : decode cX10_sled 71 = .ok (.iload_n 1, 1) := by decide +kernel
theorem dX10_sled_72 : decode cX10_sled 72 = .ok (.iload_n 2, 1) := by decide +kernel
theorem dX10_sled_73 : decode cX10_sled 73 = .ok (.iload_n 3, 1) := by decide +kernel
theorem dX10_sled_74 : decode cX10_sled 74 = .ok (.iload 4, 2) := by decide +kernel
theorem dX10_sled_76 : decode cX10_sled 76 = .ok (.invokevirtual 139, 3) := by decide +kernel
theorem dX10_sled_79 : decode cX10_sled 79 = .ok (.ireturn, 1) := by decide +kernel
theorem dX10_feed_0 : decode cX10_feed 0 = .ok (.aload_n 0, 1) := by decide +kernel
theorem dX10_feed_1 : decode cX10_feed 1 = .ok (.getfield 33, 3) := by decide +kernel
theorem dX10_feed_4 : decode cX10_feed 4 = .ok (.getfield 143, 3) := by decide +kernel
theorem dX10_feed_7 : decode cX10_feed 7 = .ok (.sipush 280, 3) := by decide +kernel
theorem dX10_feed_10 : decode cX10_feed 10 = .ok (.if_icmp .le 5, 3) := by decide +kernel
theorem dX10_feed_13 : decode cX10_feed 13 = .ok (.iconst (-1), 1) := by decide +kernel
theorem dX10_feed_14 : decode cX10_feed 14 = .ok (.ireturn, 1) := by decide +kernel
theorem dX10_feed_15 : decode cX10_feed 15 = .ok (.aload_n 0, 1) := by decide +kernel
theorem dX10_feed_16 : decode cX10_feed 16 = .ok (.getfield 33, 3) := by decide +kernel
theorem dX10_feed_19 : decode cX10_feed 19 = .ok (.iload_n 1, 1) := by decide +kernel
theorem dX10_feed_20 : decode cX10_feed 20 = .ok (.invokevirtual 146, 3) := by decide +kernel
theorem dX10_feed_23 : decode cX10_feed 23 = .ok (.aload_n 0, 1) := by decide +kernel
theorem dX10_feed_24 : decode cX10_feed 24 = .ok (.getfield 33, 3) := by decide +kernel
theorem dX10_feed_27 : decode cX10_feed 27 = .ok (.iload_n 2, 1) := by decide +kernel
theorem dX10_feed_28 : decode cX10_feed 28 = .ok (.invokevirtual 146, 3) := by decide +kernel
theorem dX10_feed_31 : decode cX10_feed 31 = .ok (.aload_n 0, 1) := by decide +kernel
theorem dX10_feed_32 : decode cX10_feed 32 = .ok (.getfield 33, 3) := by decide +kernel
theorem dX10_feed_35 : decode cX10_feed 35 = .ok (.iload_n 3, 1) := by decide +kernel
theorem dX10_feed_36 : decode cX10_feed 36 = .ok (.invokevirtual 146, 3) := by decide +kernel
theorem dX10_feed_39 : decode cX10_feed 39 = .ok (.aload_n 0, 1) := by decide +kernel
theorem dX10_feed_40 : decode cX10_feed 40 = .ok (.getfield 33, 3) := by decide +kernel
theorem dX10_feed_43 : decode cX10_feed 43 = .ok (.iload 4, 2) := by decide +kernel
theorem dX10_feed_45 : decode cX10_feed 45 = .ok (.invokevirtual 146, 3) := by decide +kernel
theorem dX10_feed_48 : decode cX10_feed 48 = .ok (.aload_n 0, 1) := by decide +kernel
theorem dX10_feed_49 : decode cX10_feed 49 = .ok (.getfield 33, 3) := by decide +kernel
theorem dX10_feed_52 : decode cX10_feed 52 = .ok (.iload 5, 2) := by decide +kernel
theorem dX10_feed_54 : decode cX10_feed 54 = .ok (.invokevirtual 146, 3) := by decide +kernel
theorem dX10_feed_57 : decode cX10_feed 57 = .ok (.aload_n 0, 1) := by decide +kernel
theorem dX10_feed_58 : decode cX10_feed 58 = .ok (.getfield 33, 3) := by decide +kernel
theorem dX10_feed_61 : decode cX10_feed 61 = .ok (.getfield 143, 3) := by decide +kernel
theorem dX10_feed_64 : decode cX10_feed 64 = .ok (.ireturn, 1) := by decide +kernel
theorem dX10_end_0 : decode cX10_end 0 = .ok (.iload_n 1, 1) := by decide +kernel
theorem dX10_end_1 : decode cX10_end 1 = .ok (.iconst 0, 1) := by decide +kernel
theorem dX10_end_2 : decode cX10_end 2 = .ok (.aload_n 0, 1) := by decide +kernel
theorem dX10_end_3 : decode cX10_end 3 = .ok (.getfield 33, 3) := by decide +kernel
theorem dX10_end_6 : decode cX10_end 6 = .ok (.getfield 143, 3) := by decide +kernel
theorem dX10_end_9 : decode cX10_end 9 = .ok (.invokestatic 62, 3) := by decide +kernel
theorem dX10_end_12 : decode cX10_end 12 = .ok (.ifCond .ne 5, 3) := by decide +kernel
theorem dX10_end_15 : decode cX10_end 15 = .ok (.iconst (-1), 1) := by decide +kernel
theorem dX10_end_16 : decode cX10_end 16 = .ok (.ireturn, 1) := by decide +kernel
theorem dX10_end_17 : decode cX10_end 17 = .ok (.aload_n 0, 1) := by decide +kernel
theorem dX10_end_18 : decode cX10_end 18 = .ok (.getfield 33, 3) := by decide +kernel
theorem dX10_end_21 : decode cX10_end 21 = .ok (.iload_n 1, 1) := by decide +kernel
theorem dX10_end_22 : decode cX10_end 22 = .ok (.putfield 143, 3) := by decide +kernel
theorem dX10_end_25 : decode cX10_end 25 = .ok (.iload_n 1, 1) := by decide +kernel
theorem dX10_end_26 : decode cX10_end 26 = .ok (.ireturn, 1) := by decide +kernel
theorem dX10_laws_0 : decode cX10_laws 0 = .ok (.aload_n 0, 1) := by decide +kernel
theorem dX10_laws_1 : decode cX10_laws 1 = .ok (.getfield 47, 3) := by decide +kernel
theorem dX10_laws_4 : decode cX10_laws 4 = .ok (.getfield 78, 3) := by decide +kernel
theorem dX10_laws_7 : decode cX10_laws 7 = .ok (.iconst (-1), 1) := by decide +kernel
theorem dX10_laws_8 : decode cX10_laws 8 = .ok (.if_icmp .eq 5, 3) := by decide +kernel
theorem dX10_laws_11 : decode cX10_laws 11 = .ok (.iconst (-1), 1) := by decide +kernel
theorem dX10_laws_12 : decode cX10_laws 12 = .ok (.ireturn, 1) := by decide +kernel
theorem dX10_laws_13 : decode cX10_laws 13 = .ok (.aload_n 0, 1) := by decide +kernel
theorem dX10_laws_14 : decode cX10_laws 14 = .ok (.getfield 40, 3) := by decide +kernel
theorem dX10_laws_17 : decode cX10_laws 17 = .ok (.aload_n 0, 1) := by decide +kernel
theorem dX10_laws_18 : decode cX10_laws 18 = .ok (.getfield 33, 3) := by decide +kernel
theorem dX10_laws_21 : decode cX10_laws 21 = .ok (.invokevirtual 150, 3) := by decide +kernel
theorem dX10_laws_24 : decode cX10_laws 24 = .ok (.istore_n 1, 1) := by decide +kernel
theorem dX10_laws_25 : decode cX10_laws 25 = .ok (.aload_n 0, 1) := by decide +kernel
theorem dX10_laws_26 : decode cX10_laws 26 = .ok (.getfield 33, 3) := by decide +kernel
theorem dX10_laws_29 : decode cX10_laws 29 = .ok (.iconst 0, 1) := by decide +kernel
theorem dX10_laws_30 : decode cX10_laws 30 = .ok (.putfield 143, 3) := by decide +kernel
theorem dX10_laws_33 : decode cX10_laws 33 = .ok (.iload_n 1, 1) := by decide +kernel
theorem dX10_laws_34 : decode cX10_laws 34 = .ok (.ireturn, 1) := by decide +kernel
theorem dX10_place_0 : decode cX10_place 0 = .ok (.aload_n 0, 1) := by decide +kernel
theorem dX10_place_1 : decode cX10_place 1 = .ok (.getfield 40, 3) := by decide +kernel
theorem dX10_place_4 : decode cX10_place 4 = .ok (.getfield 154, 3) := by decide +kernel
theorem dX10_place_7 : decode cX10_place 7 = .ok (.ireturn, 1) := by decide +kernel
theorem dX10_law_0 : decode cX10_law 0 = .ok (.aload_n 0, 1) := by decide +kernel
theorem dX10_law_1 : decode cX10_law 1 = .ok (.getfield 40, 3) := by decide +kernel
theorem dX10_law_4 : decode cX10_law 4 = .ok (.iload_n 1, 1) := by decide +kernel
theorem dX10_law_5 : decode cX10_law 5 = .ok (.invokevirtual 157, 3) := by decide +kernel
theorem dX10_law_8 : decode cX10_law 8 = .ok (.ireturn, 1) := by decide +kernel
theorem dX10_race_0 : decode cX10_race 0 = .ok (.aload_n 0, 1) := by decide +kernel
theorem dX10_race_1 : decode cX10_race 1 = .ok (.getfield 10, 3) := by decide +kernel
theorem dX10_race_4 : decode cX10_race 4 = .ok (.getfield 113, 3) := by decide +kernel
theorem dX10_race_7 : decode cX10_race 7 = .ok (.ifCond .eq 14, 3) := by decide +kernel
theorem dX10_race_10 : decode cX10_race 10 = .ok (.aload_n 0, 1) := by decide +kernel
theorem dX10_race_11 : decode cX10_race 11 = .ok (.getfield 47, 3) := by decide +kernel
theorem dX10_race_14 : decode cX10_race 14 = .ok (.getfield 78, 3) := by decide +kernel
theorem dX10_race_17 : decode cX10_race 17 = .ok (.iconst (-1), 1) := by decide +kernel
theorem dX10_race_18 : decode cX10_race 18 = .ok (.if_icmp .eq 5, 3) := by decide +kernel
theorem dX10_race_21 : decode cX10_race 21 = .ok (.iconst 0, 1) := by decide +kernel
theorem dX10_race_22 : decode cX10_race 22 = .ok (.ireturn, 1) := by decide +kernel
theorem dX10_race_23 : decode cX10_race 23 = .ok (.aload_n 0, 1) := by decide +kernel
theorem dX10_race_24 : decode cX10_race 24 = .ok (.getfield 47, 3) := by decide +kernel
theorem dX10_race_27 : decode cX10_race 27 = .ok (.invokevirtual 161, 3) := by decide +kernel
theorem dX10_race_30 : decode cX10_race 30 = .ok (.aload_n 0, 1) := by decide +kernel
theorem dX10_race_31 : decode cX10_race 31 = .ok (.getfield 47, 3) := by decide +kernel
theorem dX10_race_34 : decode cX10_race 34 = .ok (.iconst 1, 1) := by decide +kernel
theorem dX10_race_35 : decode cX10_race 35 = .ok (.putfield 66, 3) := by decide +kernel
theorem dX10_race_38 : decode cX10_race 38 = .ok (.iconst 1, 1) := by decide +kernel
theorem dX10_race_39 : decode cX10_race 39 = .ok (.ireturn, 1) := by decide +kernel
theorem dX10_begin_0 : decode cX10_begin 0 = .ok (.aload_n 0, 1) := by decide +kernel
theorem dX10_begin_1 : decode cX10_begin 1 = .ok (.getfield 47, 3) := by decide +kernel
theorem dX10_begin_4 : decode cX10_begin 4 = .ok (.getfield 66, 3) := by decide +kernel
theorem dX10_begin_7 : decode cX10_begin 7 = .ok (.ifCond .eq 43, 3) := by decide +kernel
theorem dX10_begin_10 : decode cX10_begin 10 = .ok (.aload_n 0, 1) := by decide +kernel
theorem dX10_begin_11 : decode cX10_begin 11 = .ok (.getfield 47, 3) := by decide +kernel
theorem dX10_begin_14 : decode cX10_begin 14 = .ok (.getfield 78, 3) := by decide +kernel
theorem dX10_begin_17 : decode cX10_begin 17 = .ok (.iconst (-1), 1) := by decide +kernel
theorem dX10_begin_18 : decode cX10_begin 18 = .ok (.if_icmp .ne 32, 3) := by decide +kernel
theorem dX10_begin_21 : decode cX10_begin 21 = .ok (.aload_n 0, 1) := by decide +kernel
theorem dX10_begin_22 : decode cX10_begin 22 = .ok (.getfield 47, 3) := by decide +kernel
theorem dX10_begin_25 : decode cX10_begin 25 = .ok (.getfield 164, 3) := by decide +kernel
theorem dX10_begin_28 : decode cX10_begin 28 = .ok (.aload_n 0, 1) := by decide +kernel
theorem dX10_begin_29 : decode cX10_begin 29 = .ok (.getfield 40, 3) := by decide +kernel
theorem dX10_begin_32 : decode cX10_begin 32 = .ok (.iconst 4, 1) := by decide +kernel
theorem dX10_begin_33 : decode cX10_begin 33 = .ok (.invokevirtual 157, 3) := by decide +kernel
theorem dX10_begin_36 : decode cX10_begin 36 = .ok (.if_icmp .ge 14, 3) := by decide +kernel
theorem dX10_begin_39 : decode cX10_begin 39 = .ok (.aload_n 0, 1) := by decide +kernel
theorem dX10_begin_40 : decode cX10_begin 40 = .ok (.getfield 47, 3) := by decide +kernel
theorem dX10_begin_43 : decode cX10_begin 43 = .ok (.getfield 164, 3) := by decide +kernel
theorem dX10_begin_46 : decode cX10_begin 46 = .ok (.iconst 4, 1) := by decide +kernel
theorem dX10_begin_47 : decode cX10_begin 47 = .ok (.if_icmp .lt 5, 3) := by decide +kernel
theorem dX10_begin_50 : decode cX10_begin 50 = .ok (.iconst (-1), 1) := by decide +kernel
theorem dX10_begin_51 : decode cX10_begin 51 = .ok (.ireturn, 1) := by decide +kernel
theorem dX10_begin_52 : decode cX10_begin 52 = .ok (.aload_n 0, 1) := by decide +kernel
theorem dX10_begin_53 : decode cX10_begin 53 = .ok (.getfield 47, 3) := by decide +kernel
theorem dX10_begin_56 : decode cX10_begin 56 = .ok (.getfield 164, 3) := by decide +kernel
theorem dX10_begin_59 : decode cX10_begin 59 = .ok (.ifCond .ne 11, 3) := by decide +kernel
theorem dX10_begin_62 : decode cX10_begin 62 = .ok (.aload_n 0, 1) := by decide +kernel
theorem dX10_begin_63 : decode cX10_begin 63 = .ok (.iload_n 1, 1) := by decide +kernel
theorem dX10_begin_64 : decode cX10_begin 64 = .ok (.invokevirtual 167, 3) := by decide +kernel
theorem dX10_begin_67 : decode cX10_begin 67 = .ok (.goto 7, 3) := by decide +kernel
theorem dX10_begin_70 : decode cX10_begin 70 = .ok (.aload_n 0, 1) := by decide +kernel
theorem dX10_begin_71 : decode cX10_begin 71 = .ok (.invokevirtual 170, 3) := by decide +kernel
theorem dX10_begin_74 : decode cX10_begin 74 = .ok (.ireturn, 1) := by decide +kernel
theorem dX10_order_0 : decode cX10_order 0 = .ok (.aload_n 0, 1) := by decide +kernel
theorem dX10_order_1 : decode cX10_order 1 = .ok (.getfield 47, 3) := by decide +kernel
theorem dX10_order_4 : decode cX10_order 4 = .ok (.iload_n 1, 1) := by decide +kernel
theorem dX10_order_5 : decode cX10_order 5 = .ok (.invokevirtual 173, 3) := by decide +kernel
theorem dX10_order_8 : decode cX10_order 8 = .ok (.ireturn, 1) := by decide +kernel
theorem dX10_start_0 : decode cX10_start 0 = .ok (.aload_n 0, 1) := by decide +kernel
theorem dX10_start_1 : decode cX10_start 1 = .ok (.getfield 47, 3) := by decide +kernel
theorem dX10_start_4 : decode cX10_start 4 = .ok (.getfield 78, 3) := by decide +kernel
theorem dX10_start_7 : decode cX10_start 7 = .ok (.istore_n 1, 1) := by decide +kernel
theorem dX10_start_8 : decode cX10_start 8 = .ok (.aload_n 0, 1) := by decide +kernel
theorem dX10_start_9 : decode cX10_start 9 = .ok (.getfield 47, 3) := by decide +kernel
theorem dX10_start_12 : decode cX10_start 12 = .ok (.invokevirtual 176, 3) := by decide +kernel
theorem dX10_start_15 : decode cX10_start 15 = .ok (.istore_n 2, 1) := by decide +kernel
theorem dX10_start_16 : decode cX10_start 16 = .ok (.iload_n 1, 1) := by decide +kernel
theorem dX10_start_17 : decode cX10_start 17 = .ok (.iconst (-1), 1) := by decide +kernel
theorem dX10_start_18 : decode cX10_start 18 = .ok (.if_icmp .eq 8, 3) := by decide +kernel
theorem dX10_start_21 : decode cX10_start 21 = .ok (.iload_n 2, 1) := by decide +kernel
theorem dX10_start_22 : decode cX10_start 22 = .ok (.iconst (-1), 1) := by decide +kernel
theorem dX10_start_23 : decode cX10_start 23 = .ok (.if_icmp .ne 5, 3) := by decide +kernel
theorem dX10_start_26 : decode cX10_start 26 = .ok (.iconst (-1), 1) := by decide +kernel
theorem dX10_start_27 : decode cX10_start 27 = .ok (.ireturn, 1) := by decide +kernel
theorem dX10_start_28 : decode cX10_start 28 = .ok (.aload_n 0, 1) := by decide +kernel
theorem dX10_start_29 : decode cX10_start 29 = .ok (.iload_n 1, 1) := by decide +kernel
theorem dX10_start_30 : decode cX10_start 30 = .ok (.iload_n 2, 1) := by decide +kernel
theorem dX10_start_31 : decode cX10_start 31 = .ok (.invokevirtual 179, 3) := by decide +kernel
theorem dX10_start_34 : decode cX10_start 34 = .ok (.aload_n 0, 1) := by decide +kernel
theorem dX10_start_35 : decode cX10_start 35 = .ok (.getfield 47, 3) := by decide +kernel
theorem dX10_start_38 : decode cX10_start 38 = .ok (.invokevirtual 182, 3) := by decide +kernel
theorem dX10_start_41 : decode cX10_start 41 = .ok (.aload_n 0, 1) := by decide +kernel
theorem dX10_start_42 : decode cX10_start 42 = .ok (.getfield 47, 3) := by decide +kernel
theorem dX10_start_45 : decode cX10_start 45 = .ok (.getfield 185, 3) := by decide +kernel
theorem dX10_start_48 : decode cX10_start 48 = .ok (.iload_n 1, 1) := by decide +kernel
theorem dX10_start_49 : decode cX10_start 49 = .ok (.iload_n 2, 1) := by decide +kernel
theorem dX10_start_50 : decode cX10_start 50 = .ok (.invokevirtual 189, 3) := by decide +kernel
theorem dX10_start_53 : decode cX10_start 53 = .ok (.ireturn, 1) := by decide +kernel
theorem dX10_shut_0 : decode cX10_shut 0 = .ok (.aload_n 0, 1) := by decide +kernel
theorem dX10_shut_1 : decode cX10_shut 1 = .ok (.getfield 47, 3) := by decide +kernel
theorem dX10_shut_4 : decode cX10_shut 4 = .ok (.getfield 78, 3) := by decide +kernel
theorem dX10_shut_7 : decode cX10_shut 7 = .ok (.iconst (-1), 1) := by decide +kernel
theorem dX10_shut_8 : decode cX10_shut 8 = .ok (.if_icmp .ne 5, 3) := by decide +kernel
theorem dX10_shut_11 : decode cX10_shut 11 = .ok (.iconst (-1), 1) := by decide +kernel
theorem dX10_shut_12 : decode cX10_shut 12 = .ok (.ireturn, 1) := by decide +kernel
theorem dX10_shut_13 : decode cX10_shut 13 = .ok (.aload_n 0, 1) := by decide +kernel
theorem dX10_shut_14 : decode cX10_shut 14 = .ok (.getfield 47, 3) := by decide +kernel
theorem dX10_shut_17 : decode cX10_shut 17 = .ok (.invokevirtual 194, 3) := by decide +kernel
theorem dX10_shut_20 : decode cX10_shut 20 = .ok (.ireturn, 1) := by decide +kernel
theorem dX10_touch_0 : decode cX10_touch 0 = .ok (.iload_n 2, 1) := by decide +kernel
theorem dX10_touch_1 : decode cX10_touch 1 = .ok (.iconst 0, 1) := by decide +kernel
theorem dX10_touch_2 : decode cX10_touch 2 = .ok (.sipush 200, 3) := by decide +kernel
theorem dX10_touch_5 : decode cX10_touch 5 = .ok (.invokestatic 62, 3) := by decide +kernel
theorem dX10_touch_8 : decode cX10_touch 8 = .ok (.ifCond .eq 14, 3) := by decide +kernel
theorem dX10_touch_11 : decode cX10_touch 11 = .ok (.aload_n 0, 1) := by decide +kernel
theorem dX10_touch_12 : decode cX10_touch 12 = .ok (.getfield 47, 3) := by decide +kernel
theorem dX10_touch_15 : decode cX10_touch 15 = .ok (.iload_n 1, 1) := by decide +kernel
theorem dX10_touch_16 : decode cX10_touch 16 = .ok (.invokevirtual 197, 3) := by decide +kernel
theorem dX10_touch_19 : decode cX10_touch 19 = .ok (.ifCond .ne 5, 3) := by decide +kernel
theorem dX10_touch_22 : decode cX10_touch 22 = .ok (.iconst 0, 1) := by decide +kernel
theorem dX10_touch_23 : decode cX10_touch 23 = .ok (.ireturn, 1) := by decide +kernel
theorem dX10_touch_24 : decode cX10_touch 24 = .ok (.iload_n 2, 1) := by decide +kernel
theorem dX10_touch_25 : decode cX10_touch 25 = .ok (.aload_n 0, 1) := by decide +kernel
theorem dX10_touch_26 : decode cX10_touch 26 = .ok (.getfield 40, 3) := by decide +kernel
theorem dX10_touch_29 : decode cX10_touch 29 = .ok (.iconst 1, 1) := by decide +kernel
theorem dX10_touch_30 : decode cX10_touch 30 = .ok (.invokevirtual 157, 3) := by decide +kernel
theorem dX10_touch_33 : decode cX10_touch 33 = .ok (.if_icmp .le 18, 3) := by decide +kernel
theorem dX10_touch_36 : decode cX10_touch 36 = .ok (.aload_n 0, 1) := by decide +kernel
theorem dX10_touch_37 : decode cX10_touch 37 = .ok (.getfield 47, 3) := by decide +kernel
theorem dX10_touch_40 : decode cX10_touch 40 = .ok (.iload_n 1, 1) := by decide +kernel
theorem dX10_touch_41 : decode cX10_touch 41 = .ok (.invokevirtual 200, 3) := by decide +kernel
theorem dX10_touch_44 : decode cX10_touch 44 = .ok (.ifCond .eq 7, 3) := by decide +kernel
theorem dX10_touch_47 : decode cX10_touch 47 = .ok (.iconst 1, 1) := by decide +kernel
theorem dX10_touch_48 : decode cX10_touch 48 = .ok (.goto 4, 3) := by decide +kernel
theorem dX10_touch_51 : decode cX10_touch 51 = .ok (.iconst 0, 1) := by decide +kernel
theorem dX10_touch_52 : decode cX10_touch 52 = .ok (.ireturn, 1) := by decide +kernel
theorem dX10_time_0 : decode cX10_time 0 = .ok (.aload_n 0, 1) := by decide +kernel
theorem dX10_time_1 : decode cX10_time 1 = .ok (.iload_n 1, 1) := by decide +kernel
theorem dX10_time_2 : decode cX10_time 2 = .ok (.iload_n 2, 1) := by decide +kernel
theorem dX10_time_3 : decode cX10_time 3 = .ok (.iload_n 3, 1) := by decide +kernel
theorem dX10_time_4 : decode cX10_time 4 = .ok (.invokevirtual 203, 3) := by decide +kernel
theorem dX10_time_7 : decode cX10_time 7 = .ok (.ifCond .ne 5, 3) := by decide +kernel
theorem dX10_time_10 : decode cX10_time 10 = .ok (.iconst (-1), 1) := by decide +kernel
theorem dX10_time_11 : decode cX10_time 11 = .ok (.ireturn, 1) := by decide +kernel
theorem dX10_time_12 : decode cX10_time 12 = .ok (.aload_n 0, 1) := by decide +kernel
theorem dX10_time_13 : decode cX10_time 13 = .ok (.getfield 47, 3) := by decide +kernel
theorem dX10_time_16 : decode cX10_time 16 = .ok (.getfield 185, 3) := by decide +kernel
theorem dX10_time_19 : decode cX10_time 19 = .ok (.iload_n 1, 1) := by decide +kernel
theorem dX10_time_20 : decode cX10_time 20 = .ok (.iload_n 2, 1) := by decide +kernel
theorem dX10_time_21 : decode cX10_time 21 = .ok (.iload_n 3, 1) := by decide +kernel
theorem dX10_time_22 : decode cX10_time 22 = .ok (.invokevirtual 206, 3) := by decide +kernel
theorem dX10_time_25 : decode cX10_time 25 = .ok (.istore 4, 2) := by decide +kernel
theorem dX10_time_27 : decode cX10_time 27 = .ok (.iload 4, 2) := by decide +kernel
theorem dX10_time_29 : decode cX10_time 29 = .ok (.ldc 210, 2) := by decide +kernel
theorem dX10_time_31 : decode cX10_time 31 = .ok (.if_icmp .ne 7, 3) := by decide +kernel
theorem dX10_time_34 : decode cX10_time 34 = .ok (.iconst (-1), 1) := by decide +kernel
theorem dX10_time_35 : decode cX10_time 35 = .ok (.goto 5, 3) := by decide +kernel
theorem dX10_time_38 : decode cX10_time 38 = .ok (.iload 4, 2) := by decide +kernel
theorem dX10_time_40 : decode cX10_time 40 = .ok (.ireturn, 1) := by decide +kernel
theorem dX10_twice_0 : decode cX10_twice 0 = .ok (.aload_n 0, 1) := by decide +kernel
theorem dX10_twice_1 : decode cX10_twice 1 = .ok (.iload_n 1, 1) := by decide +kernel
theorem dX10_twice_2 : decode cX10_twice 2 = .ok (.iload_n 2, 1) := by decide +kernel
theorem dX10_twice_3 : decode cX10_twice 3 = .ok (.iload_n 3, 1) := by decide +kernel
theorem dX10_twice_4 : decode cX10_twice 4 = .ok (.invokevirtual 203, 3) := by decide +kernel
theorem dX10_twice_7 : decode cX10_twice 7 = .ok (.ifCond .eq 19, 3) := by decide +kernel
theorem dX10_twice_10 : decode cX10_twice 10 = .ok (.aload_n 0, 1) := by decide +kernel
theorem dX10_twice_11 : decode cX10_twice 11 = .ok (.getfield 47, 3) := by decide +kernel
theorem dX10_twice_14 : decode cX10_twice 14 = .ok (.getfield 185, 3) := by decide +kernel
theorem dX10_twice_17 : decode cX10_twice 17 = .ok (.iload_n 1, 1) := by decide +kernel
theorem dX10_twice_18 : decode cX10_twice 18 = .ok (.iload_n 2, 1) := by decide +kernel
theorem dX10_twice_19 : decode cX10_twice 19 = .ok (.iload_n 3, 1) := by decide +kernel
theorem dX10_twice_20 : decode cX10_twice 20 = .ok (.invokevirtual 211, 3) := by decide +kernel
theorem dX10_twice_23 : decode cX10_twice 23 = .ok (.goto 4, 3) := by decide +kernel
theorem dX10_twice_26 : decode cX10_twice 26 = .ok (.iconst (-1), 1) := by decide +kernel
theorem dX10_twice_27 : decode cX10_twice 27 = .ok (.ireturn, 1) := by decide +kernel
theorem dX10_sum_0 : decode cX10_sum 0 = .ok (.iload_n 2, 1) := by decide +kernel
theorem dX10_sum_1 : decode cX10_sum 1 = .ok (.iconst 0, 1) := by decide +kernel
theorem dX10_sum_2 : decode cX10_sum 2 = .ok (.aload_n 0, 1) := by decide +kernel
theorem dX10_sum_3 : decode cX10_sum 3 = .ok (.getfield 47, 3) := by decide +kernel
theorem dX10_sum_6 : decode cX10_sum 6 = .ok (.getfield 214, 3) := by decide +kernel
theorem dX10_sum_9 : decode cX10_sum 9 = .ok (.invokestatic 62, 3) := by decide +kernel
theorem dX10_sum_12 : decode cX10_sum 12 = .ok (.ifCond .ne 5, 3) := by decide +kernel
theorem dX10_sum_15 : decode cX10_sum 15 = .ok (.iconst (-1), 1) := by decide +kernel
theorem dX10_sum_16 : decode cX10_sum 16 = .ok (.ireturn, 1) := by decide +kernel
theorem dX10_sum_17 : decode cX10_sum 17 = .ok (.aload_n 0, 1) := by decide +kernel
theorem dX10_sum_18 : decode cX10_sum 18 = .ok (.getfield 54, 3) := by decide +kernel
theorem dX10_sum_21 : decode cX10_sum 21 = .ok (.aload_n 0, 1) := by decide +kernel
theorem dX10_sum_22 : decode cX10_sum 22 = .ok (.getfield 47, 3) := by decide +kernel
theorem dX10_sum_25 : decode cX10_sum 25 = .ok (.iload_n 2, 1) := by decide +kernel
theorem dX10_sum_26 : decode cX10_sum 26 = .ok (.invokevirtual 217, 3) := by decide +kernel
theorem dX10_sum_29 : decode cX10_sum 29 = .ok (.aload_n 0, 1) := by decide +kernel
theorem dX10_sum_30 : decode cX10_sum 30 = .ok (.getfield 54, 3) := by decide +kernel
theorem dX10_sum_33 : decode cX10_sum 33 = .ok (.iload_n 1, 1) := by decide +kernel
theorem dX10_sum_34 : decode cX10_sum 34 = .ok (.invokevirtual 221, 3) := by decide +kernel
theorem dX10_sum_37 : decode cX10_sum 37 = .ok (.ireturn, 1) := by decide +kernel
theorem dX10_rank_0 : decode cX10_rank 0 = .ok (.iload_n 2, 1) := by decide +kernel
theorem dX10_rank_1 : decode cX10_rank 1 = .ok (.iconst 0, 1) := by decide +kernel
theorem dX10_rank_2 : decode cX10_rank 2 = .ok (.aload_n 0, 1) := by decide +kernel
theorem dX10_rank_3 : decode cX10_rank 3 = .ok (.getfield 47, 3) := by decide +kernel
theorem dX10_rank_6 : decode cX10_rank 6 = .ok (.getfield 214, 3) := by decide +kernel
theorem dX10_rank_9 : decode cX10_rank 9 = .ok (.invokestatic 62, 3) := by decide +kernel
theorem dX10_rank_12 : decode cX10_rank 12 = .ok (.ifCond .ne 5, 3) := by decide +kernel
theorem dX10_rank_15 : decode cX10_rank 15 = .ok (.iconst (-1), 1) := by decide +kernel
theorem dX10_rank_16 : decode cX10_rank 16 = .ok (.ireturn, 1) := by decide +kernel
theorem dX10_rank_17 : decode cX10_rank 17 = .ok (.aload_n 0, 1) := by decide +kernel
theorem dX10_rank_18 : decode cX10_rank 18 = .ok (.getfield 54, 3) := by decide +kernel
theorem dX10_rank_21 : decode cX10_rank 21 = .ok (.aload_n 0, 1) := by decide +kernel
theorem dX10_rank_22 : decode cX10_rank 22 = .ok (.getfield 47, 3) := by decide +kernel
theorem dX10_rank_25 : decode cX10_rank 25 = .ok (.iload_n 2, 1) := by decide +kernel
theorem dX10_rank_26 : decode cX10_rank 26 = .ok (.invokevirtual 217, 3) := by decide +kernel
theorem dX10_rank_29 : decode cX10_rank 29 = .ok (.aload_n 0, 1) := by decide +kernel
theorem dX10_rank_30 : decode cX10_rank 30 = .ok (.getfield 54, 3) := by decide +kernel
theorem dX10_rank_33 : decode cX10_rank 33 = .ok (.iload_n 1, 1) := by decide +kernel
theorem dX10_rank_34 : decode cX10_rank 34 = .ok (.invokevirtual 224, 3) := by decide +kernel
theorem dX10_rank_37 : decode cX10_rank 37 = .ok (.ireturn, 1) := by decide +kernel
theorem dX10_ice_0 : decode cX10_ice 0 = .ok (.aload_n 0, 1) := by decide +kernel
theorem dX10_ice_1 : decode cX10_ice 1 = .ok (.getfield 47, 3) := by decide +kernel
theorem dX10_ice_4 : decode cX10_ice 4 = .ok (.iload_n 1, 1) := by decide +kernel
theorem dX10_ice_5 : decode cX10_ice 5 = .ok (.invokevirtual 227, 3) := by decide +kernel
theorem dX10_ice_8 : decode cX10_ice 8 = .ok (.ifCond .eq 18, 3) := by decide +kernel
theorem dX10_ice_11 : decode cX10_ice 11 = .ok (.aload_n 0, 1) := by decide +kernel
theorem dX10_ice_12 : decode cX10_ice 12 = .ok (.getfield 47, 3) := by decide +kernel
theorem dX10_ice_15 : decode cX10_ice 15 = .ok (.getfield 185, 3) := by decide +kernel
theorem dX10_ice_18 : decode cX10_ice 18 = .ok (.iload_n 1, 1) := by decide +kernel
theorem dX10_ice_19 : decode cX10_ice 19 = .ok (.iload_n 2, 1) := by decide +kernel
theorem dX10_ice_20 : decode cX10_ice 20 = .ok (.invokevirtual 230, 3) := by decide +kernel
theorem dX10_ice_23 : decode cX10_ice 23 = .ok (.ifCond .ne 13, 3) := by decide +kernel
theorem dX10_ice_26 : decode cX10_ice 26 = .ok (.new 102, 3) := by decide +kernel
theorem dX10_ice_29 : decode cX10_ice 29 = .ok (.dup, 1) := by decide +kernel
theorem dX10_ice_30 : decode cX10_ice 30 = .ok (.ldc 233, 2) := by decide +kernel
theorem dX10_ice_32 : decode cX10_ice 32 = .ok (.invokespecial 106, 3) := by decide +kernel
theorem dX10_ice_35 : decode cX10_ice 35 = .ok (.athrow, 1) := by decide +kernel
theorem dX10_ice_36 : decode cX10_ice 36 = .ok (.aload_n 0, 1) := by decide +kernel
theorem dX10_ice_37 : decode cX10_ice 37 = .ok (.getfield 47, 3) := by decide +kernel
theorem dX10_ice_40 : decode cX10_ice 40 = .ok (.getfield 185, 3) := by decide +kernel
theorem dX10_ice_43 : decode cX10_ice 43 = .ok (.iload_n 1, 1) := by decide +kernel
theorem dX10_ice_44 : decode cX10_ice 44 = .ok (.iload_n 2, 1) := by decide +kernel
theorem dX10_ice_45 : decode cX10_ice 45 = .ok (.invokevirtual 235, 3) := by decide +kernel
theorem dX10_ice_48 : decode cX10_ice 48 = .ok (.ireturn, 1) := by decide +kernel
theorem dX10_lost_0 : decode cX10_lost 0 = .ok (.aload_n 0, 1) := by decide +kernel
theorem dX10_lost_1 : decode cX10_lost 1 = .ok (.getfield 47, 3) := by decide +kernel
theorem dX10_lost_4 : decode cX10_lost 4 = .ok (.iload_n 1, 1) := by decide +kernel
theorem dX10_lost_5 : decode cX10_lost 5 = .ok (.invokevirtual 227, 3) := by decide +kernel
theorem dX10_lost_8 : decode cX10_lost 8 = .ok (.ifCond .eq 35, 3) := by decide +kernel
theorem dX10_lost_11 : decode cX10_lost 11 = .ok (.aload_n 0, 1) := by decide +kernel
theorem dX10_lost_12 : decode cX10_lost 12 = .ok (.getfield 47, 3) := by decide +kernel
theorem dX10_lost_15 : decode cX10_lost 15 = .ok (.getfield 185, 3) := by decide +kernel
theorem dX10_lost_18 : decode cX10_lost 18 = .ok (.iload_n 1, 1) := by decide +kernel
theorem dX10_lost_19 : decode cX10_lost 19 = .ok (.iload_n 2, 1) := by decide +kernel
theorem dX10_lost_20 : decode cX10_lost 20 = .ok (.invokevirtual 230, 3) := by decide +kernel
theorem dX10_lost_23 : decode cX10_lost 23 = .ok (.ifCond .eq 20, 3) := by decide +kernel
theorem dX10_lost_26 : decode cX10_lost 26 = .ok (.iload_n 3, 1) := by decide +kernel
theorem dX10_lost_27 : decode cX10_lost 27 = .ok (.iconst 0, 1) := by decide +kernel
theorem dX10_lost_28 : decode cX10_lost 28 = .ok (.aload_n 0, 1) := by decide +kernel
theorem dX10_lost_29 : decode cX10_lost 29 = .ok (.getfield 10, 3) := by decide +kernel
theorem dX10_lost_32 : decode cX10_lost 32 = .ok (.getfield 130, 3) := by decide +kernel
theorem dX10_lost_35 : decode cX10_lost 35 = .ok (.iconst 2, 1) := by decide +kernel
theorem dX10_lost_36 : decode cX10_lost 36 = .ok (.isub, 1) := by decide +kernel
theorem dX10_lost_37 : decode cX10_lost 37 = .ok (.invokestatic 62, 3) := by decide +kernel
theorem dX10_lost_40 : decode cX10_lost 40 = .ok (.ifCond .ne 5, 3) := by decide +kernel
theorem dX10_lost_43 : decode cX10_lost 43 = .ok (.iconst (-1), 1) := by decide +kernel
theorem dX10_lost_44 : decode cX10_lost 44 = .ok (.ireturn, 1) := by decide +kernel
theorem dX10_lost_45 : decode cX10_lost 45 = .ok (.aload_n 0, 1) := by decide +kernel
theorem dX10_lost_46 : decode cX10_lost 46 = .ok (.getfield 47, 3) := by decide +kernel
theorem dX10_lost_49 : decode cX10_lost 49 = .ok (.getfield 185, 3) := by decide +kernel
theorem dX10_lost_52 : decode cX10_lost 52 = .ok (.iload_n 1, 1) := by decide +kernel
theorem dX10_lost_53 : decode cX10_lost 53 = .ok (.iload_n 2, 1) := by decide +kernel
theorem dX10_lost_54 : decode cX10_lost 54 = .ok (.iload_n 3, 1) := by decide +kernel
theorem dX10_lost_55 : decode cX10_lost 55 = .ok (.aload_n 0, 1) := by decide +kernel
theorem dX10_lost_56 : decode cX10_lost 56 = .ok (.getfield 10, 3) := by decide +kernel
theorem dX10_lost_59 : decode cX10_lost 59 = .ok (.getfield 130, 3) := by decide +kernel
theorem dX10_lost_62 : decode cX10_lost 62 = .ok (.invokevirtual 238, 3) := by decide +kernel
theorem dX10_lost_65 : decode cX10_lost 65 = .ok (.ireturn, 1) := by decide +kernel
theorem dX10_close_0 : decode cX10_close 0 = .ok (.aload_n 0, 1) := by decide +kernel
theorem dX10_close_1 : decode cX10_close 1 = .ok (.getfield 47, 3) := by decide +kernel
theorem dX10_close_4 : decode cX10_close 4 = .ok (.getfield 66, 3) := by decide +kernel
theorem dX10_close_7 : decode cX10_close 7 = .ok (.ifCond .eq 24, 3) := by decide +kernel
theorem dX10_close_10 : decode cX10_close 10 = .ok (.aload_n 0, 1) := by decide +kernel
theorem dX10_close_11 : decode cX10_close 11 = .ok (.getfield 47, 3) := by decide +kernel
theorem dX10_close_14 : decode cX10_close 14 = .ok (.getfield 78, 3) := by decide +kernel
theorem dX10_close_17 : decode cX10_close 17 = .ok (.iconst (-1), 1) := by decide +kernel
theorem dX10_close_18 : decode cX10_close 18 = .ok (.if_icmp .ne 13, 3) := by decide +kernel
theorem dX10_close_21 : decode cX10_close 21 = .ok (.aload_n 0, 1) := by decide +kernel
theorem dX10_close_22 : decode cX10_close 22 = .ok (.getfield 47, 3) := by decide +kernel
theorem dX10_close_25 : decode cX10_close 25 = .ok (.getfield 241, 3) := by decide +kernel
theorem dX10_close_28 : decode cX10_close 28 = .ok (.ifCond .ne 5, 3) := by decide +kernel
theorem dX10_close_31 : decode cX10_close 31 = .ok (.iconst (-1), 1) := by decide +kernel
theorem dX10_close_32 : decode cX10_close 32 = .ok (.ireturn, 1) := by decide +kernel
theorem dX10_close_33 : decode cX10_close 33 = .ok (.aload_n 0, 1) := by decide +kernel
theorem dX10_close_34 : decode cX10_close 34 = .ok (.getfield 54, 3) := by decide +kernel
theorem dX10_close_37 : decode cX10_close 37 = .ok (.aload_n 0, 1) := by decide +kernel
theorem dX10_close_38 : decode cX10_close 38 = .ok (.getfield 47, 3) := by decide +kernel
theorem dX10_close_41 : decode cX10_close 41 = .ok (.aload_n 0, 1) := by decide +kernel
theorem dX10_close_42 : decode cX10_close 42 = .ok (.getfield 47, 3) := by decide +kernel
theorem dX10_close_45 : decode cX10_close 45 = .ok (.getfield 214, 3) := by decide +kernel
theorem dX10_close_48 : decode cX10_close 48 = .ok (.invokevirtual 217, 3) := by decide +kernel
theorem dX10_close_51 : decode cX10_close 51 = .ok (.aload_n 0, 1) := by decide +kernel
theorem dX10_close_52 : decode cX10_close 52 = .ok (.invokevirtual 244, 3) := by decide +kernel
theorem dX10_close_55 : decode cX10_close 55 = .ok (.istore_n 1, 1) := by decide +kernel
theorem dX10_close_56 : decode cX10_close 56 = .ok (.aload_n 0, 1) := by decide +kernel
theorem dX10_close_57 : decode cX10_close 57 = .ok (.getfield 47, 3) := by decide +kernel
theorem dX10_close_60 : decode cX10_close 60 = .ok (.invokevirtual 161, 3) := by decide +kernel
theorem dX10_close_63 : decode cX10_close 63 = .ok (.aload_n 0, 1) := by decide +kernel
theorem dX10_close_64 : decode cX10_close 64 = .ok (.dup, 1) := by decide +kernel
theorem dX10_close_65 : decode cX10_close 65 = .ok (.getfield 58, 3) := by decide +kernel
theorem dX10_close_68 : decode cX10_close 68 = .ok (.iconst 1, 1) := by decide +kernel
theorem dX10_close_69 : decode cX10_close 69 = .ok (.iadd, 1) := by decide +kernel
theorem dX10_close_70 : decode cX10_close 70 = .ok (.putfield 58, 3) := by decide +kernel
theorem dX10_close_73 : decode cX10_close 73 = .ok (.iload_n 1, 1) := by decide +kernel
theorem dX10_close_74 : decode cX10_close 74 = .ok (.ireturn, 1) := by decide +kernel
theorem dX10_points_0 : decode cX10_points 0 = .ok (.iload_n 1, 1) := by decide +kernel
theorem dX10_points_1 : decode cX10_points 1 = .ok (.ifCond .ne 28, 3) := by decide +kernel
theorem dX10_points_4 : decode cX10_points 4 = .ok (.aload_n 0, 1) := by decide +kernel
theorem dX10_points_5 : decode cX10_points 5 = .ok (.getfield 26, 3) := by decide +kernel
theorem dX10_points_8 : decode cX10_points 8 = .ok (.iload_n 2, 1) := by decide +kernel
theorem dX10_points_9 : decode cX10_points 9 = .ok (.invokevirtual 247, 3) := by decide +kernel
theorem dX10_points_12 : decode cX10_points 12 = .ok (.ifCond .eq 15, 3) := by decide +kernel
theorem dX10_points_15 : decode cX10_points 15 = .ok (.aload_n 0, 1) := by decide +kernel
theorem dX10_points_16 : decode cX10_points 16 = .ok (.getfield 26, 3) := by decide +kernel
theorem dX10_points_19 : decode cX10_points 19 = .ok (.getfield 250, 3) := by decide +kernel
theorem dX10_points_22 : decode cX10_points 22 = .ok (.iload_n 2, 1) := by decide +kernel
theorem dX10_points_23 : decode cX10_points 23 = .ok (.iaload, 1) := by decide +kernel
theorem dX10_points_24 : decode cX10_points 24 = .ok (.goto 4, 3) := by decide +kernel
theorem dX10_points_27 : decode cX10_points 27 = .ok (.iconst (-1), 1) := by decide +kernel
theorem dX10_points_28 : decode cX10_points 28 = .ok (.ireturn, 1) := by decide +kernel
theorem dX10_points_29 : decode cX10_points 29 = .ok (.iload_n 1, 1) := by decide +kernel
theorem dX10_points_30 : decode cX10_points 30 = .ok (.iconst 1, 1) := by decide +kernel
theorem dX10_points_31 : decode cX10_points 31 = .ok (.if_icmp .ne 23, 3) := by decide +kernel
theorem dX10_points_34 : decode cX10_points 34 = .ok (.iload_n 2, 1) := by decide +kernel
theorem dX10_points_35 : decode cX10_points 35 = .ok (.iconst 0, 1) := by decide +kernel
theorem dX10_points_36 : decode cX10_points 36 = .ok (.iconst 3, 1) := by decide +kernel
theorem dX10_points_37 : decode cX10_points 37 = .ok (.invokestatic 62, 3) := by decide +kernel
theorem dX10_points_40 : decode cX10_points 40 = .ok (.ifCond .eq 14, 3) := by decide +kernel
theorem dX10_points_43 : decode cX10_points 43 = .ok (.aload_n 0, 1) := by decide +kernel
theorem dX10_points_44 : decode cX10_points 44 = .ok (.getfield 26, 3) := by decide +kernel
theorem dX10_points_47 : decode cX10_points 47 = .ok (.iload_n 2, 1) := by decide +kernel
theorem dX10_points_48 : decode cX10_points 48 = .ok (.invokevirtual 254, 3) := by decide +kernel
theorem dX10_points_51 : decode cX10_points 51 = .ok (.goto 4, 3) := by decide +kernel
theorem dX10_points_54 : decode cX10_points 54 = .ok (.iconst (-1), 1) := by decide +kernel
theorem dX10_points_55 : decode cX10_points 55 = .ok (.ireturn, 1) := by decide +kernel
theorem dX10_count_0 : decode cX10_count 0 = .ok (.iload_n 1, 1) := by decide +kernel
theorem dX10_count_1 : decode cX10_count 1 = .ok (.tableswitch 167 0 10 #[59, 67, 75, 83, 91, 107, 115, 123, 146, 154, 159], 59) := by decide +kernel
theorem dX10_count_60 : decode cX10_count 60 = .ok (.aload_n 0, 1) := by decide +kernel
theorem dX10_count_61 : decode cX10_count 61 = .ok (.getfield 10, 3) := by decide +kernel
theorem dX10_count_64 : decode cX10_count 64 = .ok (.getfield 113, 3) := by decide +kernel
theorem dX10_count_67 : decode cX10_count 67 = .ok (.ireturn, 1) := by decide +kernel
theorem dX10_count_68 : decode cX10_count 68 = .ok (.aload_n 0, 1) := by decide +kernel
theorem dX10_count_69 : decode cX10_count 69 = .ok (.getfield 10, 3) := by decide +kernel
theorem dX10_count_72 : decode cX10_count 72 = .ok (.getfield 130, 3) := by decide +kernel
theorem dX10_count_75 : decode cX10_count 75 = .ok (.ireturn, 1) := by decide +kernel
theorem dX10_count_76 : decode cX10_count 76 = .ok (.aload_n 0, 1) := by decide +kernel
theorem dX10_count_77 : decode cX10_count 77 = .ok (.getfield 26, 3) := by decide +kernel
theorem dX10_count_80 : decode cX10_count 80 = .ok (.getfield 136, 3) := by decide +kernel
theorem dX10_count_83 : decode cX10_count 83 = .ok (.ireturn, 1) := by decide +kernel
theorem dX10_count_84 : decode cX10_count 84 = .ok (.aload_n 0, 1) := by decide +kernel
theorem dX10_count_85 : decode cX10_count 85 = .ok (.getfield 33, 3) := by decide +kernel
theorem dX10_count_88 : decode cX10_count 88 = .ok (.getfield 143, 3) := by decide +kernel
theorem dX10_count_91 : decode cX10_count 91 = .ok (.ireturn, 1) := by decide +kernel
theorem dX10_count_92 : decode cX10_count 92 = .ok (.aload_n 0, 1) := by decide +kernel
theorem dX10_count_93 : decode cX10_count 93 = .ok (.getfield 47, 3) := by decide +kernel
theorem dX10_count_96 : decode cX10_count 96 = .ok (.getfield 66, 3) := by decide +kernel
theorem dX10_count_99 : decode cX10_count 99 = .ok (.ifCond .eq 7, 3) := by decide +kernel
theorem dX10_count_102 : decode cX10_count 102 = .ok (.iconst 1, 1) := by decide +kernel
theorem dX10_count_103 : decode cX10_count 103 = .ok (.goto 4, 3) := by decide +kernel
theorem dX10_count_106 : decode cX10_count 106 = .ok (.iconst 0, 1) := by decide +kernel
theorem dX10_count_107 : decode cX10_count 107 = .ok (.ireturn, 1) := by decide +kernel
theorem dX10_count_108 : decode cX10_count 108 = .ok (.aload_n 0, 1) := by decide +kernel
theorem dX10_count_109 : decode cX10_count 109 = .ok (.getfield 47, 3) := by decide +kernel
theorem dX10_count_112 : decode cX10_count 112 = .ok (.getfield 241, 3) := by decide +kernel
theorem dX10_count_115 : decode cX10_count 115 = .ok (.ireturn, 1) := by decide +kernel
theorem dX10_count_116 : decode cX10_count 116 = .ok (.aload_n 0, 1) := by decide +kernel
theorem dX10_count_117 : decode cX10_count 117 = .ok (.getfield 47, 3) := by decide +kernel
theorem dX10_count_120 : decode cX10_count 120 = .ok (.getfield 78, 3) := by decide +kernel
theorem dX10_count_123 : decode cX10_count 123 = .ok (.ireturn, 1) := by decide +kernel
theorem dX10_count_124 : decode cX10_count 124 = .ok (.aload_n 0, 1) := by decide +kernel
theorem dX10_count_125 : decode cX10_count 125 = .ok (.getfield 47, 3) := by decide +kernel
theorem dX10_count_128 : decode cX10_count 128 = .ok (.getfield 78, 3) := by decide +kernel
theorem dX10_count_131 : decode cX10_count 131 = .ok (.iconst (-1), 1) := by decide +kernel
theorem dX10_count_132 : decode cX10_count 132 = .ok (.if_icmp .ne 7, 3) := by decide +kernel
theorem dX10_count_135 : decode cX10_count 135 = .ok (.iconst 0, 1) := by decide +kernel
theorem dX10_count_136 : decode cX10_count 136 = .ok (.goto 10, 3) := by decide +kernel
theorem dX10_count_139 : decode cX10_count 139 = .ok (.aload_n 0, 1) := by decide +kernel
theorem dX10_count_140 : decode cX10_count 140 = .ok (.getfield 47, 3) := by decide +kernel
theorem dX10_count_143 : decode cX10_count 143 = .ok (.getfield 257, 3) := by decide +kernel
theorem dX10_count_146 : decode cX10_count 146 = .ok (.ireturn, 1) := by decide +kernel
theorem dX10_count_147 : decode cX10_count 147 = .ok (.aload_n 0, 1) := by decide +kernel
theorem dX10_count_148 : decode cX10_count 148 = .ok (.getfield 47, 3) := by decide +kernel
theorem dX10_count_151 : decode cX10_count 151 = .ok (.getfield 214, 3) := by decide +kernel
theorem dX10_count_154 : decode cX10_count 154 = .ok (.ireturn, 1) := by decide +kernel
theorem dX10_count_155 : decode cX10_count 155 = .ok (.aload_n 0, 1) := by decide +kernel
theorem dX10_count_156 : decode cX10_count 156 = .ok (.getfield 58, 3) := by decide +kernel
theorem dX10_count_159 : decode cX10_count 159 = .ok (.ireturn, 1) := by decide +kernel
theorem dX10_count_160 : decode cX10_count 160 = .ok (.aload_n 0, 1) := by decide +kernel
theorem dX10_count_161 : decode cX10_count 161 = .ok (.getfield 47, 3) := by decide +kernel
theorem dX10_count_164 : decode cX10_count 164 = .ok (.getfield 260, 3) := by decide +kernel
theorem dX10_count_167 : decode cX10_count 167 = .ok (.ireturn, 1) := by decide +kernel
theorem dX10_count_168 : decode cX10_count 168 = .ok (.iconst (-1), 1) := by decide +kernel
theorem dX10_count_169 : decode cX10_count 169 = .ok (.ireturn, 1) := by decide +kernel
theorem dX10_within_0 : decode cX10_within 0 = .ok (.iload_n 0, 1) := by decide +kernel
theorem dX10_within_1 : decode cX10_within 1 = .ok (.iload_n 1, 1) := by decide +kernel
theorem dX10_within_2 : decode cX10_within 2 = .ok (.if_icmp .lt 12, 3) := by decide +kernel
theorem dX10_within_5 : decode cX10_within 5 = .ok (.iload_n 0, 1) := by decide +kernel
theorem dX10_within_6 : decode cX10_within 6 = .ok (.iload_n 2, 1) := by decide +kernel
theorem dX10_within_7 : decode cX10_within 7 = .ok (.if_icmp .gt 7, 3) := by decide +kernel
theorem dX10_within_10 : decode cX10_within 10 = .ok (.iconst 1, 1) := by decide +kernel
theorem dX10_within_11 : decode cX10_within 11 = .ok (.goto 4, 3) := by decide +kernel
theorem dX10_within_14 : decode cX10_within 14 = .ok (.iconst 0, 1) := by decide +kernel
theorem dX10_within_15 : decode cX10_within 15 = .ok (.ireturn, 1) := by decide +kernel
theorem dX10_isShown_0 : decode cX10_isShown 0 = .ok (.aload_n 0, 1) := by decide +kernel
theorem dX10_isShown_1 : decode cX10_isShown 1 = .ok (.getfield 47, 3) := by decide +kernel
theorem dX10_isShown_4 : decode cX10_isShown 4 = .ok (.iload_n 1, 1) := by decide +kernel
theorem dX10_isShown_5 : decode cX10_isShown 5 = .ok (.invokevirtual 227, 3) := by decide +kernel
theorem dX10_isShown_8 : decode cX10_isShown 8 = .ok (.ifCond .ne 19, 3) := by decide +kernel
theorem dX10_isShown_11 : decode cX10_isShown 11 = .ok (.iload_n 1, 1) := by decide +kernel
theorem dX10_isShown_12 : decode cX10_isShown 12 = .ok (.iconst (-1), 1) := by decide +kernel
theorem dX10_isShown_13 : decode cX10_isShown 13 = .ok (.if_icmp .eq 18, 3) := by decide +kernel
theorem dX10_isShown_16 : decode cX10_isShown 16 = .ok (.iload_n 1, 1) := by decide +kernel
theorem dX10_isShown_17 : decode cX10_isShown 17 = .ok (.aload_n 0, 1) := by decide +kernel
theorem dX10_isShown_18 : decode cX10_isShown 18 = .ok (.getfield 47, 3) := by decide +kernel
theorem dX10_isShown_21 : decode cX10_isShown 21 = .ok (.getfield 78, 3) := by decide +kernel
theorem dX10_isShown_24 : decode cX10_isShown 24 = .ok (.if_icmp .ne 7, 3) := by decide +kernel
theorem dX10_isShown_27 : decode cX10_isShown 27 = .ok (.iconst 1, 1) := by decide +kernel
theorem dX10_isShown_28 : decode cX10_isShown 28 = .ok (.goto 4, 3) := by decide +kernel
theorem dX10_isShown_31 : decode cX10_isShown 31 = .ok (.iconst 0, 1) := by decide +kernel
theorem dX10_isShown_32 : decode cX10_isShown 32 = .ok (.istore 4, 2) := by decide +kernel
theorem dX10_isShown_34 : decode cX10_isShown 34 = .ok (.iload 4, 2) := by decide +kernel
theorem dX10_isShown_36 : decode cX10_isShown 36 = .ok (.ifCond .eq 39, 3) := by decide +kernel
theorem dX10_isShown_39 : decode cX10_isShown 39 = .ok (.aload_n 0, 1) := by decide +kernel
theorem dX10_isShown_40 : decode cX10_isShown 40 = .ok (.getfield 47, 3) := by decide +kernel
theorem dX10_isShown_43 : decode cX10_isShown 43 = .ok (.getfield 185, 3) := by decide +kernel
theorem dX10_isShown_46 : decode cX10_isShown 46 = .ok (.iload_n 1, 1) := by decide +kernel
theorem dX10_isShown_47 : decode cX10_isShown 47 = .ok (.iload_n 2, 1) := by decide +kernel
theorem dX10_isShown_48 : decode cX10_isShown 48 = .ok (.invokevirtual 230, 3) := by decide +kernel
theorem dX10_isShown_51 : decode cX10_isShown 51 = .ok (.ifCond .eq 24, 3) := by decide +kernel
theorem dX10_isShown_54 : decode cX10_isShown 54 = .ok (.iload_n 3, 1) := by decide +kernel
theorem dX10_isShown_55 : decode cX10_isShown 55 = .ok (.iconst 0, 1) := by decide +kernel
theorem dX10_isShown_56 : decode cX10_isShown 56 = .ok (.aload_n 0, 1) := by decide +kernel
theorem dX10_isShown_57 : decode cX10_isShown 57 = .ok (.getfield 10, 3) := by decide +kernel
theorem dX10_isShown_60 : decode cX10_isShown 60 = .ok (.getfield 130, 3) := by decide +kernel
theorem dX10_isShown_63 : decode cX10_isShown 63 = .ok (.iconst 1, 1) := by decide +kernel
theorem dX10_isShown_64 : decode cX10_isShown 64 = .ok (.isub, 1) := by decide +kernel
theorem dX10_isShown_65 : decode cX10_isShown 65 = .ok (.invokestatic 62, 3) := by decide +kernel
theorem dX10_isShown_68 : decode cX10_isShown 68 = .ok (.ifCond .eq 7, 3) := by decide +kernel
theorem dX10_isShown_71 : decode cX10_isShown 71 = .ok (.iconst 1, 1) := by decide +kernel
theorem dX10_isShown_72 : decode cX10_isShown 72 = .ok (.goto 4, 3) := by decide +kernel
theorem dX10_isShown_75 : decode cX10_isShown 75 = .ok (.iconst 0, 1) := by decide +kernel
theorem dX10_isShown_76 : decode cX10_isShown 76 = .ok (.ireturn, 1) := by decide +kernel
theorem dX10_timeInCell_0 : decode cX10_timeInCell 0 = .ok (.aload_n 0, 1) := by decide +kernel
theorem dX10_timeInCell_1 : decode cX10_timeInCell 1 = .ok (.getfield 19, 3) := by decide +kernel
theorem dX10_timeInCell_4 : decode cX10_timeInCell 4 = .ok (.iload_n 3, 1) := by decide +kernel
theorem dX10_timeInCell_5 : decode cX10_timeInCell 5 = .ok (.aload_n 0, 1) := by decide +kernel
theorem dX10_timeInCell_6 : decode cX10_timeInCell 6 = .ok (.getfield 10, 3) := by decide +kernel
theorem dX10_timeInCell_9 : decode cX10_timeInCell 9 = .ok (.getfield 263, 3) := by decide +kernel
theorem dX10_timeInCell_12 : decode cX10_timeInCell 12 = .ok (.iload_n 1, 1) := by decide +kernel
theorem dX10_timeInCell_13 : decode cX10_timeInCell 13 = .ok (.iaload, 1) := by decide +kernel
theorem dX10_timeInCell_14 : decode cX10_timeInCell 14 = .ok (.invokevirtual 109, 3) := by decide +kernel
theorem dX10_timeInCell_17 : decode cX10_timeInCell 17 = .ok (.istore 5, 2) := by decide +kernel
theorem dX10_timeInCell_19 : decode cX10_timeInCell 19 = .ok (.aload_n 0, 1) := by decide +kernel
theorem dX10_timeInCell_20 : decode cX10_timeInCell 20 = .ok (.getfield 10, 3) := by decide +kernel
theorem dX10_timeInCell_23 : decode cX10_timeInCell 23 = .ok (.iload_n 1, 1) := by decide +kernel
theorem dX10_timeInCell_24 : decode cX10_timeInCell 24 = .ok (.iload_n 2, 1) := by decide +kernel
theorem dX10_timeInCell_25 : decode cX10_timeInCell 25 = .ok (.iload 4, 2) := by decide +kernel
theorem dX10_timeInCell_27 : decode cX10_timeInCell 27 = .ok (.iload 5, 2) := by decide +kernel
theorem dX10_timeInCell_29 : decode cX10_timeInCell 29 = .ok (.invokevirtual 266, 3) := by decide +kernel
theorem dX10_timeInCell_32 : decode cX10_timeInCell 32 = .ok (.ireturn, 1) := by decide +kernel
theorem dX10_standardNow_0 : decode cX10_standardNow 0 = .ok (.iconst 0, 1) := by decide +kernel
theorem dX10_standardNow_1 : decode cX10_standardNow 1 = .ok (.istore_n 1, 1) := by decide +kernel
theorem dX10_standardNow_2 : decode cX10_standardNow 2 = .ok (.iconst 0, 1) := by decide +kernel
theorem dX10_standardNow_3 : decode cX10_standardNow 3 = .ok (.istore_n 2, 1) := by decide +kernel
theorem dX10_standardNow_4 : decode cX10_standardNow 4 = .ok (.iload_n 2, 1) := by decide +kernel
theorem dX10_standardNow_5 : decode cX10_standardNow 5 = .ok (.aload_n 0, 1) := by decide +kernel
theorem dX10_standardNow_6 : decode cX10_standardNow 6 = .ok (.getfield 10, 3) := by decide +kernel
theorem dX10_standardNow_9 : decode cX10_standardNow 9 = .ok (.getfield 113, 3) := by decide +kernel
theorem dX10_standardNow_12 : decode cX10_standardNow 12 = .ok (.if_icmp .ge 21, 3) := by decide +kernel
theorem dX10_standardNow_15 : decode cX10_standardNow 15 = .ok (.iload_n 1, 1) := by decide +kernel
theorem dX10_standardNow_16 : decode cX10_standardNow 16 = .ok (.aload_n 0, 1) := by decide +kernel
theorem dX10_standardNow_17 : decode cX10_standardNow 17 = .ok (.iload_n 2, 1) := by decide +kernel
theorem dX10_standardNow_18 : decode cX10_standardNow 18 = .ok (.bipush 100, 2) := by decide +kernel
theorem dX10_standardNow_20 : decode cX10_standardNow 20 = .ok (.iconst 0, 1) := by decide +kernel
theorem dX10_standardNow_21 : decode cX10_standardNow 21 = .ok (.iconst 5, 1) := by decide +kernel
theorem dX10_standardNow_22 : decode cX10_standardNow 22 = .ok (.invokevirtual 269, 3) := by decide +kernel
theorem dX10_standardNow_25 : decode cX10_standardNow 25 = .ok (.iadd, 1) := by decide +kernel
theorem dX10_standardNow_26 : decode cX10_standardNow 26 = .ok (.istore_n 1, 1) := by decide +kernel
theorem dX10_standardNow_27 : decode cX10_standardNow 27 = .ok (.iinc 2 1, 3) := by decide +kernel
theorem dX10_standardNow_30 : decode cX10_standardNow 30 = .ok (.goto (-26), 3) := by decide +kernel
theorem dX10_standardNow_33 : decode cX10_standardNow 33 = .ok (.iload_n 1, 1) := by decide +kernel
theorem dX10_standardNow_34 : decode cX10_standardNow 34 = .ok (.ireturn, 1) := by decide +kernel
theorem dX10_beginFirst_0 : decode cX10_beginFirst 0 = .ok (.aload_n 0, 1) := by decide +kernel
theorem dX10_beginFirst_1 : decode cX10_beginFirst 1 = .ok (.getfield 26, 3) := by decide +kernel
theorem dX10_beginFirst_4 : decode cX10_beginFirst 4 = .ok (.aload_n 0, 1) := by decide +kernel
theorem dX10_beginFirst_5 : decode cX10_beginFirst 5 = .ok (.getfield 40, 3) := by decide +kernel
theorem dX10_beginFirst_8 : decode cX10_beginFirst 8 = .ok (.iconst 0, 1) := by decide +kernel
theorem dX10_beginFirst_9 : decode cX10_beginFirst 9 = .ok (.invokevirtual 157, 3) := by decide +kernel
theorem dX10_beginFirst_12 : decode cX10_beginFirst 12 = .ok (.aload_n 0, 1) := by decide +kernel
theorem dX10_beginFirst_13 : decode cX10_beginFirst 13 = .ok (.getfield 47, 3) := by decide +kernel
theorem dX10_beginFirst_16 : decode cX10_beginFirst 16 = .ok (.getfield 272, 3) := by decide +kernel
theorem dX10_beginFirst_19 : decode cX10_beginFirst 19 = .ok (.invokevirtual 275, 3) := by decide +kernel
theorem dX10_beginFirst_22 : decode cX10_beginFirst 22 = .ok (.istore_n 2, 1) := by decide +kernel
theorem dX10_beginFirst_23 : decode cX10_beginFirst 23 = .ok (.iload_n 2, 1) := by decide +kernel
theorem dX10_beginFirst_24 : decode cX10_beginFirst 24 = .ok (.ifCond .ne 5, 3) := by decide +kernel
theorem dX10_beginFirst_27 : decode cX10_beginFirst 27 = .ok (.iconst (-1), 1) := by decide +kernel
theorem dX10_beginFirst_28 : decode cX10_beginFirst 28 = .ok (.ireturn, 1) := by decide +kernel
theorem dX10_beginFirst_29 : decode cX10_beginFirst 29 = .ok (.aload_n 0, 1) := by decide +kernel
theorem dX10_beginFirst_30 : decode cX10_beginFirst 30 = .ok (.getfield 47, 3) := by decide +kernel
theorem dX10_beginFirst_33 : decode cX10_beginFirst 33 = .ok (.iload_n 2, 1) := by decide +kernel
theorem dX10_beginFirst_34 : decode cX10_beginFirst 34 = .ok (.invokevirtual 279, 3) := by decide +kernel
theorem dX10_beginFirst_37 : decode cX10_beginFirst 37 = .ok (.aload_n 0, 1) := by decide +kernel
theorem dX10_beginFirst_38 : decode cX10_beginFirst 38 = .ok (.getfield 47, 3) := by decide +kernel
theorem dX10_beginFirst_41 : decode cX10_beginFirst 41 = .ok (.iload_n 1, 1) := by decide +kernel
theorem dX10_beginFirst_42 : decode cX10_beginFirst 42 = .ok (.iload_n 2, 1) := by decide +kernel
theorem dX10_beginFirst_43 : decode cX10_beginFirst 43 = .ok (.invokevirtual 282, 3) := by decide +kernel
theorem dX10_beginFirst_46 : decode cX10_beginFirst 46 = .ok (.aload_n 0, 1) := by decide +kernel
theorem dX10_beginFirst_47 : decode cX10_beginFirst 47 = .ok (.getfield 47, 3) := by decide +kernel
theorem dX10_beginFirst_50 : decode cX10_beginFirst 50 = .ok (.invokevirtual 285, 3) := by decide +kernel
theorem dX10_beginFirst_53 : decode cX10_beginFirst 53 = .ok (.ireturn, 1) := by decide +kernel
theorem dX10_beginLater_0 : decode cX10_beginLater 0 = .ok (.aload_n 0, 1) := by decide +kernel
theorem dX10_beginLater_1 : decode cX10_beginLater 1 = .ok (.getfield 54, 3) := by decide +kernel
theorem dX10_beginLater_4 : decode cX10_beginLater 4 = .ok (.aload_n 0, 1) := by decide +kernel
theorem dX10_beginLater_5 : decode cX10_beginLater 5 = .ok (.getfield 47, 3) := by decide +kernel
theorem dX10_beginLater_8 : decode cX10_beginLater 8 = .ok (.aload_n 0, 1) := by decide +kernel
theorem dX10_beginLater_9 : decode cX10_beginLater 9 = .ok (.getfield 47, 3) := by decide +kernel
theorem dX10_beginLater_12 : decode cX10_beginLater 12 = .ok (.getfield 214, 3) := by decide +kernel
theorem dX10_beginLater_15 : decode cX10_beginLater 15 = .ok (.invokevirtual 217, 3) := by decide +kernel
theorem dX10_beginLater_18 : decode cX10_beginLater 18 = .ok (.aload_n 0, 1) := by decide +kernel
theorem dX10_beginLater_19 : decode cX10_beginLater 19 = .ok (.getfield 54, 3) := by decide +kernel
theorem dX10_beginLater_22 : decode cX10_beginLater 22 = .ok (.aload_n 0, 1) := by decide +kernel
theorem dX10_beginLater_23 : decode cX10_beginLater 23 = .ok (.getfield 47, 3) := by decide +kernel
theorem dX10_beginLater_26 : decode cX10_beginLater 26 = .ok (.getfield 272, 3) := by decide +kernel
theorem dX10_beginLater_29 : decode cX10_beginLater 29 = .ok (.invokevirtual 288, 3) := by decide +kernel
theorem dX10_beginLater_32 : decode cX10_beginLater 32 = .ok (.istore_n 1, 1) := by decide +kernel
theorem dX10_beginLater_33 : decode cX10_beginLater 33 = .ok (.iload_n 1, 1) := by decide +kernel
theorem dX10_beginLater_34 : decode cX10_beginLater 34 = .ok (.ifCond .ne 5, 3) := by decide +kernel
theorem dX10_beginLater_37 : decode cX10_beginLater 37 = .ok (.iconst (-1), 1) := by decide +kernel
theorem dX10_beginLater_38 : decode cX10_beginLater 38 = .ok (.ireturn, 1) := by decide +kernel
theorem dX10_beginLater_39 : decode cX10_beginLater 39 = .ok (.aload_n 0, 1) := by decide +kernel
theorem dX10_beginLater_40 : decode cX10_beginLater 40 = .ok (.getfield 47, 3) := by decide +kernel
theorem dX10_beginLater_43 : decode cX10_beginLater 43 = .ok (.iload_n 1, 1) := by decide +kernel
theorem dX10_beginLater_44 : decode cX10_beginLater 44 = .ok (.aload_n 0, 1) := by decide +kernel
theorem dX10_beginLater_45 : decode cX10_beginLater 45 = .ok (.getfield 40, 3) := by decide +kernel
theorem dX10_beginLater_48 : decode cX10_beginLater 48 = .ok (.iconst 3, 1) := by decide +kernel
theorem dX10_beginLater_49 : decode cX10_beginLater 49 = .ok (.invokevirtual 157, 3) := by decide +kernel
theorem dX10_beginLater_52 : decode cX10_beginLater 52 = .ok (.invokestatic 292, 3) := by decide +kernel
theorem dX10_beginLater_55 : decode cX10_beginLater 55 = .ok (.aload_n 0, 1) := by decide +kernel
theorem dX10_beginLater_56 : decode cX10_beginLater 56 = .ok (.getfield 40, 3) := by decide +kernel
theorem dX10_beginLater_59 : decode cX10_beginLater 59 = .ok (.iconst 2, 1) := by decide +kernel
theorem dX10_beginLater_60 : decode cX10_beginLater 60 = .ok (.invokevirtual 157, 3) := by decide +kernel
theorem dX10_beginLater_63 : decode cX10_beginLater 63 = .ok (.invokevirtual 297, 3) := by decide +kernel
theorem dX10_beginLater_66 : decode cX10_beginLater 66 = .ok (.aload_n 0, 1) := by decide +kernel
theorem dX10_beginLater_67 : decode cX10_beginLater 67 = .ok (.getfield 47, 3) := by decide +kernel
theorem dX10_beginLater_70 : decode cX10_beginLater 70 = .ok (.invokevirtual 285, 3) := by decide +kernel
theorem dX10_beginLater_73 : decode cX10_beginLater 73 = .ok (.ireturn, 1) := by decide +kernel
theorem dX10_comeDown_0 : decode cX10_comeDown 0 = .ok (.aload_n 0, 1) := by decide +kernel
theorem dX10_comeDown_1 : decode cX10_comeDown 1 = .ok (.getfield 47, 3) := by decide +kernel
theorem dX10_comeDown_4 : decode cX10_comeDown 4 = .ok (.getfield 185, 3) := by decide +kernel
theorem dX10_comeDown_7 : decode cX10_comeDown 7 = .ok (.iload_n 1, 1) := by decide +kernel
theorem dX10_comeDown_8 : decode cX10_comeDown 8 = .ok (.iload_n 2, 1) := by decide +kernel
theorem dX10_comeDown_9 : decode cX10_comeDown 9 = .ok (.aload_n 0, 1) := by decide +kernel
theorem dX10_comeDown_10 : decode cX10_comeDown 10 = .ok (.invokevirtual 126, 3) := by decide +kernel
theorem dX10_comeDown_13 : decode cX10_comeDown 13 = .ok (.invokevirtual 300, 3) := by decide +kernel
theorem dX10_comeDown_16 : decode cX10_comeDown 16 = .ok (.iconst 0, 1) := by decide +kernel
theorem dX10_comeDown_17 : decode cX10_comeDown 17 = .ok (.istore_n 3, 1) := by decide +kernel
theorem dX10_comeDown_18 : decode cX10_comeDown 18 = .ok (.iconst 1, 1) := by decide +kernel
theorem dX10_comeDown_19 : decode cX10_comeDown 19 = .ok (.istore 4, 2) := by decide +kernel
theorem dX10_comeDown_21 : decode cX10_comeDown 21 = .ok (.iload 4, 2) := by decide +kernel
theorem dX10_comeDown_23 : decode cX10_comeDown 23 = .ok (.aload_n 0, 1) := by decide +kernel
theorem dX10_comeDown_24 : decode cX10_comeDown 24 = .ok (.getfield 10, 3) := by decide +kernel
theorem dX10_comeDown_27 : decode cX10_comeDown 27 = .ok (.getfield 130, 3) := by decide +kernel
theorem dX10_comeDown_30 : decode cX10_comeDown 30 = .ok (.if_icmp .ge 72, 3) := by decide +kernel
theorem dX10_comeDown_33 : decode cX10_comeDown 33 = .ok (.iload_n 3, 1) := by decide +kernel
theorem dX10_comeDown_34 : decode cX10_comeDown 34 = .ok (.aload_n 0, 1) := by decide +kernel
theorem dX10_comeDown_35 : decode cX10_comeDown 35 = .ok (.iload_n 2, 1) := by decide +kernel
theorem dX10_comeDown_36 : decode cX10_comeDown 36 = .ok (.aload_n 0, 1) := by decide +kernel
theorem dX10_comeDown_37 : decode cX10_comeDown 37 = .ok (.getfield 10, 3) := by decide +kernel
theorem dX10_comeDown_40 : decode cX10_comeDown 40 = .ok (.getfield 303, 3) := by decide +kernel
theorem dX10_comeDown_43 : decode cX10_comeDown 43 = .ok (.iload 4, 2) := by decide +kernel
theorem dX10_comeDown_45 : decode cX10_comeDown 45 = .ok (.iconst 1, 1) := by decide +kernel
theorem dX10_comeDown_46 : decode cX10_comeDown 46 = .ok (.isub, 1) := by decide +kernel
theorem dX10_comeDown_47 : decode cX10_comeDown 47 = .ok (.iaload, 1) := by decide +kernel
theorem dX10_comeDown_48 : decode cX10_comeDown 48 = .ok (.aload_n 0, 1) := by decide +kernel
theorem dX10_comeDown_49 : decode cX10_comeDown 49 = .ok (.getfield 10, 3) := by decide +kernel
theorem dX10_comeDown_52 : decode cX10_comeDown 52 = .ok (.getfield 303, 3) := by decide +kernel
theorem dX10_comeDown_55 : decode cX10_comeDown 55 = .ok (.iload 4, 2) := by decide +kernel
theorem dX10_comeDown_57 : decode cX10_comeDown 57 = .ok (.iaload, 1) := by decide +kernel
theorem dX10_comeDown_58 : decode cX10_comeDown 58 = .ok (.invokevirtual 306, 3) := by decide +kernel
theorem dX10_comeDown_61 : decode cX10_comeDown 61 = .ok (.iadd, 1) := by decide +kernel
theorem dX10_comeDown_62 : decode cX10_comeDown 62 = .ok (.istore_n 3, 1) := by decide +kernel
theorem dX10_comeDown_63 : decode cX10_comeDown 63 = .ok (.aload_n 0, 1) := by decide +kernel
theorem dX10_comeDown_64 : decode cX10_comeDown 64 = .ok (.getfield 47, 3) := by decide +kernel
theorem dX10_comeDown_67 : decode cX10_comeDown 67 = .ok (.getfield 185, 3) := by decide +kernel
theorem dX10_comeDown_70 : decode cX10_comeDown 70 = .ok (.iload_n 1, 1) := by decide +kernel
theorem dX10_comeDown_71 : decode cX10_comeDown 71 = .ok (.iload_n 2, 1) := by decide +kernel
theorem dX10_comeDown_72 : decode cX10_comeDown 72 = .ok (.iload 4, 2) := by decide +kernel
theorem dX10_comeDown_74 : decode cX10_comeDown 74 = .ok (.aload_n 0, 1) := by decide +kernel
theorem dX10_comeDown_75 : decode cX10_comeDown 75 = .ok (.getfield 10, 3) := by decide +kernel
theorem dX10_comeDown_78 : decode cX10_comeDown 78 = .ok (.iload 4, 2) := by decide +kernel
theorem dX10_comeDown_80 : decode cX10_comeDown 80 = .ok (.iload_n 3, 1) := by decide +kernel
theorem dX10_comeDown_81 : decode cX10_comeDown 81 = .ok (.invokevirtual 309, 3) := by decide +kernel
theorem dX10_comeDown_84 : decode cX10_comeDown 84 = .ok (.aload_n 0, 1) := by decide +kernel
theorem dX10_comeDown_85 : decode cX10_comeDown 85 = .ok (.getfield 10, 3) := by decide +kernel
theorem dX10_comeDown_88 : decode cX10_comeDown 88 = .ok (.iload 4, 2) := by decide +kernel
theorem dX10_comeDown_90 : decode cX10_comeDown 90 = .ok (.invokevirtual 312, 3) := by decide +kernel
theorem dX10_comeDown_93 : decode cX10_comeDown 93 = .ok (.invokevirtual 315, 3) := by decide +kernel
theorem dX10_comeDown_96 : decode cX10_comeDown 96 = .ok (.iinc 4 1, 3) := by decide +kernel
theorem dX10_comeDown_99 : decode cX10_comeDown 99 = .ok (.goto (-78), 3) := by decide +kernel
theorem dX10_comeDown_102 : decode cX10_comeDown 102 = .ok (.aload_n 0, 1) := by decide +kernel
theorem dX10_comeDown_103 : decode cX10_comeDown 103 = .ok (.getfield 47, 3) := by decide +kernel
theorem dX10_comeDown_106 : decode cX10_comeDown 106 = .ok (.getfield 185, 3) := by decide +kernel
theorem dX10_comeDown_109 : decode cX10_comeDown 109 = .ok (.iload_n 1, 1) := by decide +kernel
theorem dX10_comeDown_110 : decode cX10_comeDown 110 = .ok (.iload_n 2, 1) := by decide +kernel
theorem dX10_comeDown_111 : decode cX10_comeDown 111 = .ok (.aload_n 0, 1) := by decide +kernel
theorem dX10_comeDown_112 : decode cX10_comeDown 112 = .ok (.getfield 10, 3) := by decide +kernel
theorem dX10_comeDown_115 : decode cX10_comeDown 115 = .ok (.getfield 130, 3) := by decide +kernel
theorem dX10_comeDown_118 : decode cX10_comeDown 118 = .ok (.invokevirtual 318, 3) := by decide +kernel
theorem dX10_comeDown_121 : decode cX10_comeDown 121 = .ok (.return_, 1) := by decide +kernel
theorem dX10_ride_0 : decode cX10_ride 0 = .ok (.iconst 0, 1) := by decide +kernel
theorem dX10_ride_1 : decode cX10_ride 1 = .ok (.istore 4, 2) := by decide +kernel
theorem dX10_ride_3 : decode cX10_ride 3 = .ok (.iload_n 2, 1) := by decide +kernel
theorem dX10_ride_4 : decode cX10_ride 4 = .ok (.istore 5, 2) := by decide +kernel
theorem dX10_ride_6 : decode cX10_ride 6 = .ok (.iload 5, 2) := by decide +kernel
theorem dX10_ride_8 : decode cX10_ride 8 = .ok (.iload_n 3, 1) := by decide +kernel
theorem dX10_ride_9 : decode cX10_ride 9 = .ok (.if_icmp .ge 65, 3) := by decide +kernel
theorem dX10_ride_12 : decode cX10_ride 12 = .ok (.iload 4, 2) := by decide +kernel
theorem dX10_ride_14 : decode cX10_ride 14 = .ok (.aload_n 0, 1) := by decide +kernel
theorem dX10_ride_15 : decode cX10_ride 15 = .ok (.iload 5, 2) := by decide +kernel
theorem dX10_ride_17 : decode cX10_ride 17 = .ok (.aload_n 0, 1) := by decide +kernel
theorem dX10_ride_18 : decode cX10_ride 18 = .ok (.getfield 26, 3) := by decide +kernel
theorem dX10_ride_21 : decode cX10_ride 21 = .ok (.getfield 321, 3) := by decide +kernel
theorem dX10_ride_24 : decode cX10_ride 24 = .ok (.iload_n 1, 1) := by decide +kernel
theorem dX10_ride_25 : decode cX10_ride 25 = .ok (.iaload, 1) := by decide +kernel
theorem dX10_ride_26 : decode cX10_ride 26 = .ok (.aload_n 0, 1) := by decide +kernel
theorem dX10_ride_27 : decode cX10_ride 27 = .ok (.getfield 26, 3) := by decide +kernel
theorem dX10_ride_30 : decode cX10_ride 30 = .ok (.getfield 324, 3) := by decide +kernel
theorem dX10_ride_33 : decode cX10_ride 33 = .ok (.iload_n 1, 1) := by decide +kernel
theorem dX10_ride_34 : decode cX10_ride 34 = .ok (.iaload, 1) := by decide +kernel
theorem dX10_ride_35 : decode cX10_ride 35 = .ok (.aload_n 0, 1) := by decide +kernel
theorem dX10_ride_36 : decode cX10_ride 36 = .ok (.getfield 26, 3) := by decide +kernel
theorem dX10_ride_39 : decode cX10_ride 39 = .ok (.getfield 327, 3) := by decide +kernel
theorem dX10_ride_42 : decode cX10_ride 42 = .ok (.iload_n 1, 1) := by decide +kernel
theorem dX10_ride_43 : decode cX10_ride 43 = .ok (.iaload, 1) := by decide +kernel
theorem dX10_ride_44 : decode cX10_ride 44 = .ok (.invokevirtual 269, 3) := by decide +kernel
theorem dX10_ride_47 : decode cX10_ride 47 = .ok (.iadd, 1) := by decide +kernel
theorem dX10_ride_48 : decode cX10_ride 48 = .ok (.istore 4, 2) := by decide +kernel
theorem dX10_ride_50 : decode cX10_ride 50 = .ok (.aload_n 0, 1) := by decide +kernel
theorem dX10_ride_51 : decode cX10_ride 51 = .ok (.getfield 10, 3) := by decide +kernel
theorem dX10_ride_54 : decode cX10_ride 54 = .ok (.iload 5, 2) := by decide +kernel
theorem dX10_ride_56 : decode cX10_ride 56 = .ok (.aload_n 0, 1) := by decide +kernel
theorem dX10_ride_57 : decode cX10_ride 57 = .ok (.getfield 26, 3) := by decide +kernel
theorem dX10_ride_60 : decode cX10_ride 60 = .ok (.getfield 321, 3) := by decide +kernel
theorem dX10_ride_63 : decode cX10_ride 63 = .ok (.iload_n 1, 1) := by decide +kernel
theorem dX10_ride_64 : decode cX10_ride 64 = .ok (.iaload, 1) := by decide +kernel
theorem dX10_ride_65 : decode cX10_ride 65 = .ok (.invokevirtual 330, 3) := by decide +kernel
theorem dX10_ride_68 : decode cX10_ride 68 = .ok (.iinc 5 1, 3) := by decide +kernel
theorem dX10_ride_71 : decode cX10_ride 71 = .ok (.goto (-65), 3) := by decide +kernel
theorem dX10_ride_74 : decode cX10_ride 74 = .ok (.iload 4, 2) := by decide +kernel
theorem dX10_ride_76 : decode cX10_ride 76 = .ok (.ireturn, 1) := by decide +kernel
theorem dX10_givePoints_0 : decode cX10_givePoints 0 = .ok (.aload_n 0, 1) := by decide +kernel
theorem dX10_givePoints_1 : decode cX10_givePoints 1 = .ok (.getfield 40, 3) := by decide +kernel
theorem dX10_givePoints_4 : decode cX10_givePoints 4 = .ok (.iconst 5, 1) := by decide +kernel
theorem dX10_givePoints_5 : decode cX10_givePoints 5 = .ok (.invokevirtual 157, 3) := by decide +kernel
theorem dX10_givePoints_8 : decode cX10_givePoints 8 = .ok (.iconst 1, 1) := by decide +kernel
theorem dX10_givePoints_9 : decode cX10_givePoints 9 = .ok (.if_icmp .ne 7, 3) := by decide +kernel
theorem dX10_givePoints_12 : decode cX10_givePoints 12 = .ok (.iconst 1, 1) := by decide +kernel
theorem dX10_givePoints_13 : decode cX10_givePoints 13 = .ok (.goto 4, 3) := by decide +kernel
theorem dX10_givePoints_16 : decode cX10_givePoints 16 = .ok (.iconst 0, 1) := by decide +kernel
theorem dX10_givePoints_17 : decode cX10_givePoints 17 = .ok (.istore_n 1, 1) := by decide +kernel
theorem dX10_givePoints_18 : decode cX10_givePoints 18 = .ok (.iconst 0, 1) := by decide +kernel
theorem dX10_givePoints_19 : decode cX10_givePoints 19 = .ok (.istore_n 2, 1) := by decide +kernel
theorem dX10_givePoints_20 : decode cX10_givePoints 20 = .ok (.iconst 0, 1) := by decide +kernel
theorem dX10_givePoints_21 : decode cX10_givePoints 21 = .ok (.istore_n 3, 1) := by decide +kernel
theorem dX10_givePoints_22 : decode cX10_givePoints 22 = .ok (.iload_n 3, 1) := by decide +kernel
theorem dX10_givePoints_23 : decode cX10_givePoints 23 = .ok (.aload_n 0, 1) := by decide +kernel
theorem dX10_givePoints_24 : decode cX10_givePoints 24 = .ok (.getfield 26, 3) := by decide +kernel
theorem dX10_givePoints_27 : decode cX10_givePoints 27 = .ok (.getfield 136, 3) := by decide +kernel
theorem dX10_givePoints_30 : decode cX10_givePoints 30 = .ok (.if_icmp .ge 71, 3) := by decide +kernel
theorem dX10_givePoints_33 : decode cX10_givePoints 33 = .ok (.aload_n 0, 1) := by decide +kernel
theorem dX10_givePoints_34 : decode cX10_givePoints 34 = .ok (.getfield 54, 3) := by decide +kernel
theorem dX10_givePoints_37 : decode cX10_givePoints 37 = .ok (.iload_n 3, 1) := by decide +kernel
theorem dX10_givePoints_38 : decode cX10_givePoints 38 = .ok (.invokevirtual 333, 3) := by decide +kernel
theorem dX10_givePoints_41 : decode cX10_givePoints 41 = .ok (.ifCond .eq 54, 3) := by decide +kernel
theorem dX10_givePoints_44 : decode cX10_givePoints 44 = .ok (.aload_n 0, 1) := by decide +kernel
theorem dX10_givePoints_45 : decode cX10_givePoints 45 = .ok (.getfield 54, 3) := by decide +kernel
theorem dX10_givePoints_48 : decode cX10_givePoints 48 = .ok (.iload_n 3, 1) := by decide +kernel
theorem dX10_givePoints_49 : decode cX10_givePoints 49 = .ok (.invokevirtual 224, 3) := by decide +kernel
theorem dX10_givePoints_52 : decode cX10_givePoints 52 = .ok (.istore 4, 2) := by decide +kernel
theorem dX10_givePoints_54 : decode cX10_givePoints 54 = .ok (.aload_n 0, 1) := by decide +kernel
theorem dX10_givePoints_55 : decode cX10_givePoints 55 = .ok (.getfield 26, 3) := by decide +kernel
theorem dX10_givePoints_58 : decode cX10_givePoints 58 = .ok (.getfield 250, 3) := by decide +kernel
theorem dX10_givePoints_61 : decode cX10_givePoints 61 = .ok (.iload_n 3, 1) := by decide +kernel
theorem dX10_givePoints_62 : decode cX10_givePoints 62 = .ok (.dup2, 1) := by decide +kernel
theorem dX10_givePoints_63 : decode cX10_givePoints 63 = .ok (.iaload, 1) := by decide +kernel
theorem dX10_givePoints_64 : decode cX10_givePoints 64 = .ok (.iload_n 1, 1) := by decide +kernel
theorem dX10_givePoints_65 : decode cX10_givePoints 65 = .ok (.ifCond .eq 20, 3) := by decide +kernel
theorem dX10_givePoints_68 : decode cX10_givePoints 68 = .ok (.iload 4, 2) := by decide +kernel
theorem dX10_givePoints_70 : decode cX10_givePoints 70 = .ok (.aload_n 0, 1) := by decide +kernel
theorem dX10_givePoints_71 : decode cX10_givePoints 71 = .ok (.getfield 54, 3) := by decide +kernel
theorem dX10_givePoints_74 : decode cX10_givePoints 74 = .ok (.iload 4, 2) := by decide +kernel
theorem dX10_givePoints_76 : decode cX10_givePoints 76 = .ok (.invokevirtual 336, 3) := by decide +kernel
theorem dX10_givePoints_79 : decode cX10_givePoints 79 = .ok (.invokestatic 339, 3) := by decide +kernel
theorem dX10_givePoints_82 : decode cX10_givePoints 82 = .ok (.goto 8, 3) := by decide +kernel
theorem dX10_givePoints_85 : decode cX10_givePoints 85 = .ok (.iload 4, 2) := by decide +kernel
theorem dX10_givePoints_87 : decode cX10_givePoints 87 = .ok (.invokestatic 342, 3) := by decide +kernel
theorem dX10_givePoints_90 : decode cX10_givePoints 90 = .ok (.iadd, 1) := by decide +kernel
theorem dX10_givePoints_91 : decode cX10_givePoints 91 = .ok (.iastore, 1) := by decide +kernel
theorem dX10_givePoints_92 : decode cX10_givePoints 92 = .ok (.iinc 2 1, 3) := by decide +kernel
theorem dX10_givePoints_95 : decode cX10_givePoints 95 = .ok (.iinc 3 1, 3) := by decide +kernel
theorem dX10_givePoints_98 : decode cX10_givePoints 98 = .ok (.goto (-76), 3) := by decide +kernel
theorem dX10_givePoints_101 : decode cX10_givePoints 101 = .ok (.iload_n 2, 1) := by decide +kernel
theorem dX10_givePoints_102 : decode cX10_givePoints 102 = .ok (.ireturn, 1) := by decide +kernel
theorem dX10_sharedPoints_0 : decode cX10_sharedPoints 0 = .ok (.iconst 0, 1) := by decide +kernel
theorem dX10_sharedPoints_1 : decode cX10_sharedPoints 1 = .ok (.istore_n 2, 1) := by decide +kernel
theorem dX10_sharedPoints_2 : decode cX10_sharedPoints 2 = .ok (.iconst 0, 1) := by decide +kernel
theorem dX10_sharedPoints_3 : decode cX10_sharedPoints 3 = .ok (.istore_n 3, 1) := by decide +kernel
theorem dX10_sharedPoints_4 : decode cX10_sharedPoints 4 = .ok (.iload_n 3, 1) := by decide +kernel
theorem dX10_sharedPoints_5 : decode cX10_sharedPoints 5 = .ok (.iload_n 1, 1) := by decide +kernel
theorem dX10_sharedPoints_6 : decode cX10_sharedPoints 6 = .ok (.if_icmp .ge 18, 3) := by decide +kernel
theorem dX10_sharedPoints_9 : decode cX10_sharedPoints 9 = .ok (.iload_n 2, 1) := by decide +kernel
theorem dX10_sharedPoints_10 : decode cX10_sharedPoints 10 = .ok (.iload_n 0, 1) := by decide +kernel
theorem dX10_sharedPoints_11 : decode cX10_sharedPoints 11 = .ok (.iload_n 3, 1) := by decide +kernel
theorem dX10_sharedPoints_12 : decode cX10_sharedPoints 12 = .ok (.iadd, 1) := by decide +kernel
theorem dX10_sharedPoints_13 : decode cX10_sharedPoints 13 = .ok (.invokestatic 342, 3) := by decide +kernel
theorem dX10_sharedPoints_16 : decode cX10_sharedPoints 16 = .ok (.iadd, 1) := by decide +kernel
theorem dX10_sharedPoints_17 : decode cX10_sharedPoints 17 = .ok (.istore_n 2, 1) := by decide +kernel
theorem dX10_sharedPoints_18 : decode cX10_sharedPoints 18 = .ok (.iinc 3 1, 3) := by decide +kernel
theorem dX10_sharedPoints_21 : decode cX10_sharedPoints 21 = .ok (.goto (-17), 3) := by decide +kernel
theorem dX10_sharedPoints_24 : decode cX10_sharedPoints 24 = .ok (.iload_n 1, 1) := by decide +kernel
theorem dX10_sharedPoints_25 : decode cX10_sharedPoints 25 = .ok (.ifCond .le 9, 3) := by decide +kernel
theorem dX10_sharedPoints_28 : decode cX10_sharedPoints 28 = .ok (.iload_n 2, 1) := by decide +kernel
theorem dX10_sharedPoints_29 : decode cX10_sharedPoints 29 = .ok (.iload_n 1, 1) := by decide +kernel
theorem dX10_sharedPoints_30 : decode cX10_sharedPoints 30 = .ok (.idiv, 1) := by decide +kernel
theorem dX10_sharedPoints_31 : decode cX10_sharedPoints 31 = .ok (.goto 4, 3) := by decide +kernel
theorem dX10_sharedPoints_34 : decode cX10_sharedPoints 34 = .ok (.iconst 0, 1) := by decide +kernel
theorem dX10_sharedPoints_35 : decode cX10_sharedPoints 35 = .ok (.ireturn, 1) := by decide +kernel
theorem dX10_pointsOfPlace_0 : decode cX10_pointsOfPlace 0 = .ok (.iload_n 0, 1) := by decide +kernel
theorem dX10_pointsOfPlace_1 : decode cX10_pointsOfPlace 1 = .ok (.iconst 1, 1) := by decide +kernel
theorem dX10_pointsOfPlace_2 : decode cX10_pointsOfPlace 2 = .ok (.getstatic 345, 3) := by decide +kernel
theorem dX10_pointsOfPlace_5 : decode cX10_pointsOfPlace 5 = .ok (.arraylength, 1) := by decide +kernel
theorem dX10_pointsOfPlace_6 : decode cX10_pointsOfPlace 6 = .ok (.invokestatic 62, 3) := by decide +kernel
theorem dX10_pointsOfPlace_9 : decode cX10_pointsOfPlace 9 = .ok (.ifCond .eq 13, 3) := by decide +kernel
theorem dX10_pointsOfPlace_12 : decode cX10_pointsOfPlace 12 = .ok (.getstatic 345, 3) := by decide +kernel
theorem dX10_pointsOfPlace_15 : decode cX10_pointsOfPlace 15 = .ok (.iload_n 0, 1) := by decide +kernel
theorem dX10_pointsOfPlace_16 : decode cX10_pointsOfPlace 16 = .ok (.iconst 1, 1) := by decide +kernel
theorem dX10_pointsOfPlace_17 : decode cX10_pointsOfPlace 17 = .ok (.isub, 1) := by decide +kernel
theorem dX10_pointsOfPlace_18 : decode cX10_pointsOfPlace 18 = .ok (.iaload, 1) := by decide +kernel
theorem dX10_pointsOfPlace_19 : decode cX10_pointsOfPlace 19 = .ok (.goto 4, 3) := by decide +kernel
theorem dX10_pointsOfPlace_22 : decode cX10_pointsOfPlace 22 = .ok (.iconst 0, 1) := by decide +kernel
theorem dX10_pointsOfPlace_23 : decode cX10_pointsOfPlace 23 = .ok (.ireturn, 1) := by decide +kernel
