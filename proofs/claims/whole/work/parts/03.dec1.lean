theorem dX0_init_0 : decode cX0_init 0 = .ok (.aload_n 0, 1) := by decide +kernel
theorem dX0_init_1 : decode cX0_init 1 = .ok (.invokespecial 3, 3) := by decide +kernel
theorem dX0_init_4 : decode cX0_init 4 = .ok (.aload_n 0, 1) := by decide +kernel
theorem dX0_init_5 : decode cX0_init 5 = .ok (.bipush 20, 2) := by decide +kernel
theorem dX0_init_7 : decode cX0_init 7 = .ok (.newarray .int, 2) := by decide +kernel
theorem dX0_init_9 : decode cX0_init 9 = .ok (.putfield 11, 3) := by decide +kernel
theorem dX0_init_12 : decode cX0_init 12 = .ok (.aload_n 0, 1) := by decide +kernel
theorem dX0_init_13 : decode cX0_init 13 = .ok (.bipush 20, 2) := by decide +kernel
theorem dX0_init_15 : decode cX0_init 15 = .ok (.newarray .int, 2) := by decide +kernel
theorem dX0_init_17 : decode cX0_init 17 = .ok (.putfield 15, 3) := by decide +kernel
theorem dX0_init_20 : decode cX0_init 20 = .ok (.aload_n 0, 1) := by decide +kernel
theorem dX0_init_21 : decode cX0_init 21 = .ok (.bipush 20, 2) := by decide +kernel
theorem dX0_init_23 : decode cX0_init 23 = .ok (.newarray .int, 2) := by decide +kernel
theorem dX0_init_25 : decode cX0_init 25 = .ok (.putfield 18, 3) := by decide +kernel
theorem dX0_init_28 : decode cX0_init 28 = .ok (.return_, 1) := by decide +kernel
theorem dX0_add_0 : decode cX0_add 0 = .ok (.aload_n 0, 1) := by decide +kernel
theorem dX0_add_1 : decode cX0_add 1 = .ok (.getfield 21, 3) := by decide +kernel
theorem dX0_add_4 : decode cX0_add 4 = .ok (.bipush 20, 2) := by decide +kernel
theorem dX0_add_6 : decode cX0_add 6 = .ok (.if_icmp .lt 6, 3) := by decide +kernel
theorem dX0_add_9 : decode cX0_add 9 = .ok (.bipush (-4), 2) := by decide +kernel
theorem dX0_add_11 : decode cX0_add 11 = .ok (.ireturn, 1) := by decide +kernel
theorem dX0_add_12 : decode cX0_add 12 = .ok (.aload_n 0, 1) := by decide +kernel
theorem dX0_add_13 : decode cX0_add 13 = .ok (.getfield 11, 3) := by decide +kernel
theorem dX0_add_16 : decode cX0_add 16 = .ok (.aload_n 0, 1) := by decide +kernel
theorem dX0_add_17 : decode cX0_add 17 = .ok (.getfield 21, 3) := by decide +kernel
theorem dX0_add_20 : decode cX0_add 20 = .ok (.iload_n 1, 1) := by decide +kernel
theorem dX0_add_21 : decode cX0_add 21 = .ok (.iastore, 1) := by decide +kernel
theorem dX0_add_22 : decode cX0_add 22 = .ok (.aload_n 0, 1) := by decide +kernel
theorem dX0_add_23 : decode cX0_add 23 = .ok (.getfield 15, 3) := by decide +kernel
theorem dX0_add_26 : decode cX0_add 26 = .ok (.aload_n 0, 1) := by decide +kernel
theorem dX0_add_27 : decode cX0_add 27 = .ok (.getfield 21, 3) := by decide +kernel
theorem dX0_add_30 : decode cX0_add 30 = .ok (.iload_n 2, 1) := by decide +kernel
theorem dX0_add_31 : decode cX0_add 31 = .ok (.iastore, 1) := by decide +kernel
theorem dX0_add_32 : decode cX0_add 32 = .ok (.aload_n 0, 1) := by decide +kernel
theorem dX0_add_33 : decode cX0_add 33 = .ok (.getfield 18, 3) := by decide +kernel
theorem dX0_add_36 : decode cX0_add 36 = .ok (.aload_n 0, 1) := by decide +kernel
theorem dX0_add_37 : decode cX0_add 37 = .ok (.getfield 21, 3) := by decide +kernel
theorem dX0_add_40 : decode cX0_add 40 = .ok (.iload_n 3, 1) := by decide +kernel
theorem dX0_add_41 : decode cX0_add 41 = .ok (.iastore, 1) := by decide +kernel
theorem dX0_add_42 : decode cX0_add 42 = .ok (.aload_n 0, 1) := by decide +kernel
theorem dX0_add_43 : decode cX0_add 43 = .ok (.dup, 1) := by decide +kernel
theorem dX0_add_44 : decode cX0_add 44 = .ok (.getfield 21, 3) := by decide +kernel
theorem dX0_add_47 : decode cX0_add 47 = .ok (.iconst 1, 1) := by decide +kernel
theorem dX0_add_48 : decode cX0_add 48 = .ok (.iadd, 1) := by decide +kernel
theorem dX0_add_49 : decode cX0_add 49 = .ok (.putfield 21, 3) := by decide +kernel
theorem dX0_add_52 : decode cX0_add 52 = .ok (.aload_n 0, 1) := by decide +kernel
theorem dX0_add_53 : decode cX0_add 53 = .ok (.getfield 21, 3) := by decide +kernel
theorem dX0_add_56 : decode cX0_add 56 = .ok (.ireturn, 1) := by decide +kernel
theorem dX0_sumUp_0 : decode cX0_sumUp 0 = .ok (.aload_n 0, 1) := by decide +kernel
theorem dX0_sumUp_1 : decode cX0_sumUp 1 = .ok (.iconst 0, 1) := by decide +kernel
theorem dX0_sumUp_2 : decode cX0_sumUp 2 = .ok (.putfield 25, 3) := by decide +kernel
theorem dX0_sumUp_5 : decode cX0_sumUp 5 = .ok (.aload_n 0, 1) := by decide +kernel
theorem dX0_sumUp_6 : decode cX0_sumUp 6 = .ok (.lconst 0, 1) := by decide +kernel
theorem dX0_sumUp_7 : decode cX0_sumUp 7 = .ok (.putfield 28, 3) := by decide +kernel
theorem dX0_sumUp_10 : decode cX0_sumUp 10 = .ok (.aload_n 0, 1) := by decide +kernel
theorem dX0_sumUp_11 : decode cX0_sumUp 11 = .ok (.lconst 0, 1) := by decide +kernel
theorem dX0_sumUp_12 : decode cX0_sumUp 12 = .ok (.putfield 32, 3) := by decide +kernel
theorem dX0_sumUp_15 : decode cX0_sumUp 15 = .ok (.aload_n 0, 1) := by decide +kernel
theorem dX0_sumUp_16 : decode cX0_sumUp 16 = .ok (.lconst 0, 1) := by decide +kernel
theorem dX0_sumUp_17 : decode cX0_sumUp 17 = .ok (.putfield 35, 3) := by decide +kernel
theorem dX0_sumUp_20 : decode cX0_sumUp 20 = .ok (.iconst 0, 1) := by decide +kernel
theorem dX0_sumUp_21 : decode cX0_sumUp 21 = .ok (.istore_n 2, 1) := by decide +kernel
theorem dX0_sumUp_22 : decode cX0_sumUp 22 = .ok (.iload_n 2, 1) := by decide +kernel
theorem dX0_sumUp_23 : decode cX0_sumUp 23 = .ok (.aload_n 0, 1) := by decide +kernel
theorem dX0_sumUp_24 : decode cX0_sumUp 24 = .ok (.getfield 21, 3) := by decide +kernel
theorem dX0_sumUp_27 : decode cX0_sumUp 27 = .ok (.if_icmp .ge 87, 3) := by decide +kernel
theorem dX0_sumUp_30 : decode cX0_sumUp 30 = .ok (.aload_n 0, 1) := by decide +kernel
theorem dX0_sumUp_31 : decode cX0_sumUp 31 = .ok (.getfield 11, 3) := by decide +kernel
theorem dX0_sumUp_34 : decode cX0_sumUp 34 = .ok (.iload_n 2, 1) := by decide +kernel
theorem dX0_sumUp_35 : decode cX0_sumUp 35 = .ok (.iaload, 1) := by decide +kernel
theorem dX0_sumUp_36 : decode cX0_sumUp 36 = .ok (.iload_n 1, 1) := by decide +kernel
theorem dX0_sumUp_37 : decode cX0_sumUp 37 = .ok (.if_icmp .ne 71, 3) := by decide +kernel
theorem dX0_sumUp_40 : decode cX0_sumUp 40 = .ok (.aload_n 0, 1) := by decide +kernel
theorem dX0_sumUp_41 : decode cX0_sumUp 41 = .ok (.dup, 1) := by decide +kernel
theorem dX0_sumUp_42 : decode cX0_sumUp 42 = .ok (.getfield 25, 3) := by decide +kernel
theorem dX0_sumUp_45 : decode cX0_sumUp 45 = .ok (.iconst 1, 1) := by decide +kernel
theorem dX0_sumUp_46 : decode cX0_sumUp 46 = .ok (.iadd, 1) := by decide +kernel
theorem dX0_sumUp_47 : decode cX0_sumUp 47 = .ok (.putfield 25, 3) := by decide +kernel
theorem dX0_sumUp_50 : decode cX0_sumUp 50 = .ok (.aload_n 0, 1) := by decide +kernel
theorem dX0_sumUp_51 : decode cX0_sumUp 51 = .ok (.dup, 1) := by decide +kernel
theorem dX0_sumUp_52 : decode cX0_sumUp 52 = .ok (.getfield 28, 3) := by decide +kernel
theorem dX0_sumUp_55 : decode cX0_sumUp 55 = .ok (.aload_n 0, 1) := by decide +kernel
theorem dX0_sumUp_56 : decode cX0_sumUp 56 = .ok (.getfield 15, 3) := by decide +kernel
theorem dX0_sumUp_59 : decode cX0_sumUp 59 = .ok (.iload_n 2, 1) := by decide +kernel
theorem dX0_sumUp_60 : decode cX0_sumUp 60 = .ok (.iaload, 1) := by decide +kernel
theorem dX0_sumUp_61 : decode cX0_sumUp 61 = .ok (.i2l, 1) := by decide +kernel
theorem dX0_sumUp_62 : decode cX0_sumUp 62 = .ok (.ladd, 1) := by decide +kernel
theorem dX0_sumUp_63 : decode cX0_sumUp 63 = .ok (.putfield 28, 3) := by decide +kernel
theorem dX0_sumUp_66 : decode cX0_sumUp 66 = .ok (.aload_n 0, 1) := by decide +kernel
theorem dX0_sumUp_67 : decode cX0_sumUp 67 = .ok (.dup, 1) := by decide +kernel
theorem dX0_sumUp_68 : decode cX0_sumUp 68 = .ok (.getfield 32, 3) := by decide +kernel
theorem dX0_sumUp_71 : decode cX0_sumUp 71 = .ok (.aload_n 0, 1) := by decide +kernel
theorem dX0_sumUp_72 : decode cX0_sumUp 72 = .ok (.getfield 18, 3) := by decide +kernel
theorem dX0_sumUp_75 : decode cX0_sumUp 75 = .ok (.iload_n 2, 1) := by decide +kernel
theorem dX0_sumUp_76 : decode cX0_sumUp 76 = .ok (.iaload, 1) := by decide +kernel
theorem dX0_sumUp_77 : decode cX0_sumUp 77 = .ok (.i2l, 1) := by decide +kernel
theorem dX0_sumUp_78 : decode cX0_sumUp 78 = .ok (.ladd, 1) := by decide +kernel
theorem dX0_sumUp_79 : decode cX0_sumUp 79 = .ok (.putfield 32, 3) := by decide +kernel
theorem dX0_sumUp_82 : decode cX0_sumUp 82 = .ok (.aload_n 0, 1) := by decide +kernel
theorem dX0_sumUp_83 : decode cX0_sumUp 83 = .ok (.dup, 1) := by decide +kernel
theorem dX0_sumUp_84 : decode cX0_sumUp 84 = .ok (.getfield 35, 3) := by decide +kernel
theorem dX0_sumUp_87 : decode cX0_sumUp 87 = .ok (.aload_n 0, 1) := by decide +kernel
theorem dX0_sumUp_88 : decode cX0_sumUp 88 = .ok (.getfield 15, 3) := by decide +kernel
theorem dX0_sumUp_91 : decode cX0_sumUp 91 = .ok (.iload_n 2, 1) := by decide +kernel
theorem dX0_sumUp_92 : decode cX0_sumUp 92 = .ok (.iaload, 1) := by decide +kernel
theorem dX0_sumUp_93 : decode cX0_sumUp 93 = .ok (.aload_n 0, 1) := by decide +kernel
theorem dX0_sumUp_94 : decode cX0_sumUp 94 = .ok (.getfield 18, 3) := by decide +kernel
theorem dX0_sumUp_97 : decode cX0_sumUp 97 = .ok (.iload_n 2, 1) := by decide +kernel
theorem dX0_sumUp_98 : decode cX0_sumUp 98 = .ok (.iaload, 1) := by decide +kernel
theorem dX0_sumUp_99 : decode cX0_sumUp 99 = .ok (.isub, 1) := by decide +kernel
theorem dX0_sumUp_100 : decode cX0_sumUp 100 = .ok (.invokestatic 38, 3) := by decide +kernel
theorem dX0_sumUp_103 : decode cX0_sumUp 103 = .ok (.i2l, 1) := by decide +kernel
theorem dX0_sumUp_104 : decode cX0_sumUp 104 = .ok (.ladd, 1) := by decide +kernel
theorem dX0_sumUp_105 : decode cX0_sumUp 105 = .ok (.putfield 35, 3) := by decide +kernel
theorem dX0_sumUp_108 : decode cX0_sumUp 108 = .ok (.iinc 2 1, 3) := by decide +kernel
theorem dX0_sumUp_111 : decode cX0_sumUp 111 = .ok (.goto (-89), 3) := by decide +kernel
theorem dX0_sumUp_114 : decode cX0_sumUp 114 = .ok (.return_, 1) := by decide +kernel
theorem dX0_mix_0 : decode cX0_mix 0 = .ok (.lload_n 1, 1) := by decide +kernel
theorem dX0_mix_1 : decode cX0_mix 1 = .ok (.lstore_n 3, 1) := by decide +kernel
theorem dX0_mix_2 : decode cX0_mix 2 = .ok (.iconst 0, 1) := by decide +kernel
theorem dX0_mix_3 : decode cX0_mix 3 = .ok (.istore 5, 2) := by decide +kernel
theorem dX0_mix_5 : decode cX0_mix 5 = .ok (.iload 5, 2) := by decide +kernel
theorem dX0_mix_7 : decode cX0_mix 7 = .ok (.aload_n 0, 1) := by decide +kernel
theorem dX0_mix_8 : decode cX0_mix 8 = .ok (.getfield 21, 3) := by decide +kernel
theorem dX0_mix_11 : decode cX0_mix 11 = .ok (.if_icmp .ge 54, 3) := by decide +kernel
theorem dX0_mix_14 : decode cX0_mix 14 = .ok (.ldc2_w 44, 3) := by decide +kernel
theorem dX0_mix_17 : decode cX0_mix 17 = .ok (.lload_n 3, 1) := by decide +kernel
theorem dX0_mix_18 : decode cX0_mix 18 = .ok (.lmul, 1) := by decide +kernel
theorem dX0_mix_19 : decode cX0_mix 19 = .ok (.aload_n 0, 1) := by decide +kernel
theorem dX0_mix_20 : decode cX0_mix 20 = .ok (.getfield 11, 3) := by decide +kernel
theorem dX0_mix_23 : decode cX0_mix 23 = .ok (.iload 5, 2) := by decide +kernel
theorem dX0_mix_25 : decode cX0_mix 25 = .ok (.iaload, 1) := by decide +kernel
theorem dX0_mix_26 : decode cX0_mix 26 = .ok (.i2l, 1) := by decide +kernel
theorem dX0_mix_27 : decode cX0_mix 27 = .ok (.ladd, 1) := by decide +kernel
theorem dX0_mix_28 : decode cX0_mix 28 = .ok (.lstore_n 3, 1) := by decide +kernel
theorem dX0_mix_29 : decode cX0_mix 29 = .ok (.ldc2_w 44, 3) := by decide +kernel
theorem dX0_mix_32 : decode cX0_mix 32 = .ok (.lload_n 3, 1) := by decide +kernel
theorem dX0_mix_33 : decode cX0_mix 33 = .ok (.lmul, 1) := by decide +kernel
theorem dX0_mix_34 : decode cX0_mix 34 = .ok (.aload_n 0, 1) := by decide +kernel
theorem dX0_mix_35 : decode cX0_mix 35 = .ok (.getfield 15, 3) := by decide +kernel
theorem dX0_mix_38 : decode cX0_mix 38 = .ok (.iload 5, 2) := by decide +kernel
theorem dX0_mix_40 : decode cX0_mix 40 = .ok (.iaload, 1) := by decide +kernel
theorem dX0_mix_41 : decode cX0_mix 41 = .ok (.i2l, 1) := by decide +kernel
theorem dX0_mix_42 : decode cX0_mix 42 = .ok (.ladd, 1) := by decide +kernel
theorem dX0_mix_43 : decode cX0_mix 43 = .ok (.lstore_n 3, 1) := by decide +kernel
theorem dX0_mix_44 : decode cX0_mix 44 = .ok (.ldc2_w 44, 3) := by decide +kernel
theorem dX0_mix_47 : decode cX0_mix 47 = .ok (.lload_n 3, 1) := by decide +kernel
theorem dX0_mix_48 : decode cX0_mix 48 = .ok (.lmul, 1) := by decide +kernel
theorem dX0_mix_49 : decode cX0_mix 49 = .ok (.aload_n 0, 1) := by decide +kernel
theorem dX0_mix_50 : decode cX0_mix 50 = .ok (.getfield 18, 3) := by decide +kernel
theorem dX0_mix_53 : decode cX0_mix 53 = .ok (.iload 5, 2) := by decide +kernel
theorem dX0_mix_55 : decode cX0_mix 55 = .ok (.iaload, 1) := by decide +kernel
theorem dX0_mix_56 : decode cX0_mix 56 = .ok (.i2l, 1) := by decide +kernel
theorem dX0_mix_57 : decode cX0_mix 57 = .ok (.ladd, 1) := by decide +kernel
theorem dX0_mix_58 : decode cX0_mix 58 = .ok (.lstore_n 3, 1) := by decide +kernel
theorem dX0_mix_59 : decode cX0_mix 59 = .ok (.iinc 5 1, 3) := by decide +kernel
theorem dX0_mix_62 : decode cX0_mix 62 = .ok (.goto (-57), 3) := by decide +kernel
theorem dX0_mix_65 : decode cX0_mix 65 = .ok (.lload_n 3, 1) := by decide +kernel
theorem dX0_mix_66 : decode cX0_mix 66 = .ok (.lreturn, 1) := by decide +kernel
theorem dX1_init_0 : decode cX1_init 0 = .ok (.aload_n 0, 1) := by decide +kernel
theorem dX1_init_1 : decode cX1_init 1 = .ok (.invokespecial 3, 3) := by decide +kernel
theorem dX1_init_4 : decode cX1_init 4 = .ok (.aload_n 0, 1) := by decide +kernel
theorem dX1_init_5 : decode cX1_init 5 = .ok (.bipush 6, 2) := by decide +kernel
theorem dX1_init_7 : decode cX1_init 7 = .ok (.newarray .int, 2) := by decide +kernel
theorem dX1_init_9 : decode cX1_init 9 = .ok (.putfield 9, 3) := by decide +kernel
theorem dX1_init_12 : decode cX1_init 12 = .ok (.aload_n 0, 1) := by decide +kernel
theorem dX1_init_13 : decode cX1_init 13 = .ok (.bipush 6, 2) := by decide +kernel
theorem dX1_init_15 : decode cX1_init 15 = .ok (.newarray .int, 2) := by decide +kernel
theorem dX1_init_17 : decode cX1_init 17 = .ok (.putfield 15, 3) := by decide +kernel
theorem dX1_init_20 : decode cX1_init 20 = .ok (.aload_n 0, 1) := by decide +kernel
theorem dX1_init_21 : decode cX1_init 21 = .ok (.bipush 6, 2) := by decide +kernel
theorem dX1_init_23 : decode cX1_init 23 = .ok (.newarray .int, 2) := by decide +kernel
theorem dX1_init_25 : decode cX1_init 25 = .ok (.putfield 18, 3) := by decide +kernel
theorem dX1_init_28 : decode cX1_init 28 = .ok (.aload_n 0, 1) := by decide +kernel
theorem dX1_init_29 : decode cX1_init 29 = .ok (.getfield 9, 3) := by decide +kernel
theorem dX1_init_32 : decode cX1_init 32 = .ok (.iconst (-1), 1) := by decide +kernel
theorem dX1_init_33 : decode cX1_init 33 = .ok (.invokestatic 21, 3) := by decide +kernel
theorem dX1_init_36 : decode cX1_init 36 = .ok (.return_, 1) := by decide +kernel
theorem dX1_write_0 : decode cX1_write 0 = .ok (.aload_n 0, 1) := by decide +kernel
theorem dX1_write_1 : decode cX1_write 1 = .ok (.getfield 9, 3) := by decide +kernel
theorem dX1_write_4 : decode cX1_write 4 = .ok (.iload_n 1, 1) := by decide +kernel
theorem dX1_write_5 : decode cX1_write 5 = .ok (.iaload, 1) := by decide +kernel
theorem dX1_write_6 : decode cX1_write 6 = .ok (.istore 5, 2) := by decide +kernel
theorem dX1_write_8 : decode cX1_write 8 = .ok (.aload_n 0, 1) := by decide +kernel
theorem dX1_write_9 : decode cX1_write 9 = .ok (.getfield 9, 3) := by decide +kernel
theorem dX1_write_12 : decode cX1_write 12 = .ok (.iload_n 1, 1) := by decide +kernel
theorem dX1_write_13 : decode cX1_write 13 = .ok (.iload_n 2, 1) := by decide +kernel
theorem dX1_write_14 : decode cX1_write 14 = .ok (.iastore, 1) := by decide +kernel
theorem dX1_write_15 : decode cX1_write 15 = .ok (.aload_n 0, 1) := by decide +kernel
theorem dX1_write_16 : decode cX1_write 16 = .ok (.getfield 15, 3) := by decide +kernel
theorem dX1_write_19 : decode cX1_write 19 = .ok (.iload_n 1, 1) := by decide +kernel
theorem dX1_write_20 : decode cX1_write 20 = .ok (.iload_n 3, 1) := by decide +kernel
theorem dX1_write_21 : decode cX1_write 21 = .ok (.iastore, 1) := by decide +kernel
theorem dX1_write_22 : decode cX1_write 22 = .ok (.aload_n 0, 1) := by decide +kernel
theorem dX1_write_23 : decode cX1_write 23 = .ok (.getfield 18, 3) := by decide +kernel
theorem dX1_write_26 : decode cX1_write 26 = .ok (.iload_n 1, 1) := by decide +kernel
theorem dX1_write_27 : decode cX1_write 27 = .ok (.iload 4, 2) := by decide +kernel
theorem dX1_write_29 : decode cX1_write 29 = .ok (.iastore, 1) := by decide +kernel
theorem dX1_write_30 : decode cX1_write 30 = .ok (.iload 5, 2) := by decide +kernel
theorem dX1_write_32 : decode cX1_write 32 = .ok (.ireturn, 1) := by decide +kernel
theorem dX1_has_0 : decode cX1_has 0 = .ok (.aload_n 0, 1) := by decide +kernel
theorem dX1_has_1 : decode cX1_has 1 = .ok (.getfield 9, 3) := by decide +kernel
theorem dX1_has_4 : decode cX1_has 4 = .ok (.iload_n 1, 1) := by decide +kernel
theorem dX1_has_5 : decode cX1_has 5 = .ok (.iaload, 1) := by decide +kernel
theorem dX1_has_6 : decode cX1_has 6 = .ok (.iconst (-1), 1) := by decide +kernel
theorem dX1_has_7 : decode cX1_has 7 = .ok (.if_icmp .eq 7, 3) := by decide +kernel
theorem dX1_has_10 : decode cX1_has 10 = .ok (.iconst 1, 1) := by decide +kernel
theorem dX1_has_11 : decode cX1_has 11 = .ok (.goto 4, 3) := by decide +kernel
theorem dX1_has_14 : decode cX1_has 14 = .ok (.iconst 0, 1) := by decide +kernel
theorem dX1_has_15 : decode cX1_has 15 = .ok (.ireturn, 1) := by decide +kernel
theorem dX1_written_0 : decode cX1_written 0 = .ok (.iconst 0, 1) := by decide +kernel
theorem dX1_written_1 : decode cX1_written 1 = .ok (.istore_n 1, 1) := by decide +kernel
theorem dX1_written_2 : decode cX1_written 2 = .ok (.iconst 0, 1) := by decide +kernel
theorem dX1_written_3 : decode cX1_written 3 = .ok (.istore_n 2, 1) := by decide +kernel
theorem dX1_written_4 : decode cX1_written 4 = .ok (.iload_n 2, 1) := by decide +kernel
theorem dX1_written_5 : decode cX1_written 5 = .ok (.bipush 6, 2) := by decide +kernel
theorem dX1_written_7 : decode cX1_written 7 = .ok (.if_icmp .ge 20, 3) := by decide +kernel
theorem dX1_written_10 : decode cX1_written 10 = .ok (.aload_n 0, 1) := by decide +kernel
theorem dX1_written_11 : decode cX1_written 11 = .ok (.iload_n 2, 1) := by decide +kernel
theorem dX1_written_12 : decode cX1_written 12 = .ok (.invokevirtual 27, 3) := by decide +kernel
theorem dX1_written_15 : decode cX1_written 15 = .ok (.ifCond .eq 6, 3) := by decide +kernel
theorem dX1_written_18 : decode cX1_written 18 = .ok (.iinc 1 1, 3) := by decide +kernel
theorem dX1_written_21 : decode cX1_written 21 = .ok (.iinc 2 1, 3) := by decide +kernel
theorem dX1_written_24 : decode cX1_written 24 = .ok (.goto (-20), 3) := by decide +kernel
theorem dX1_written_27 : decode cX1_written 27 = .ok (.iload_n 1, 1) := by decide +kernel
theorem dX1_written_28 : decode cX1_written 28 = .ok (.ireturn, 1) := by decide +kernel
theorem dX1_mix_0 : decode cX1_mix 0 = .ok (.lload_n 1, 1) := by decide +kernel
theorem dX1_mix_1 : decode cX1_mix 1 = .ok (.lstore_n 3, 1) := by decide +kernel
theorem dX1_mix_2 : decode cX1_mix 2 = .ok (.iconst 0, 1) := by decide +kernel
theorem dX1_mix_3 : decode cX1_mix 3 = .ok (.istore 5, 2) := by decide +kernel
theorem dX1_mix_5 : decode cX1_mix 5 = .ok (.iload 5, 2) := by decide +kernel
theorem dX1_mix_7 : decode cX1_mix 7 = .ok (.bipush 6, 2) := by decide +kernel
theorem dX1_mix_9 : decode cX1_mix 9 = .ok (.if_icmp .ge 54, 3) := by decide +kernel
theorem dX1_mix_12 : decode cX1_mix 12 = .ok (.ldc2_w 31, 3) := by decide +kernel
theorem dX1_mix_15 : decode cX1_mix 15 = .ok (.lload_n 3, 1) := by decide +kernel
theorem dX1_mix_16 : decode cX1_mix 16 = .ok (.lmul, 1) := by decide +kernel
theorem dX1_mix_17 : decode cX1_mix 17 = .ok (.aload_n 0, 1) := by decide +kernel
theorem dX1_mix_18 : decode cX1_mix 18 = .ok (.getfield 9, 3) := by decide +kernel
theorem dX1_mix_21 : decode cX1_mix 21 = .ok (.iload 5, 2) := by decide +kernel
theorem dX1_mix_23 : decode cX1_mix 23 = .ok (.iaload, 1) := by decide +kernel
theorem dX1_mix_24 : decode cX1_mix 24 = .ok (.i2l, 1) := by decide +kernel
theorem dX1_mix_25 : decode cX1_mix 25 = .ok (.ladd, 1) := by decide +kernel
theorem dX1_mix_26 : decode cX1_mix 26 = .ok (.lstore_n 3, 1) := by decide +kernel
theorem dX1_mix_27 : decode cX1_mix 27 = .ok (.ldc2_w 31, 3) := by decide +kernel
theorem dX1_mix_30 : decode cX1_mix 30 = .ok (.lload_n 3, 1) := by decide +kernel
theorem dX1_mix_31 : decode cX1_mix 31 = .ok (.lmul, 1) := by decide +kernel
theorem dX1_mix_32 : decode cX1_mix 32 = .ok (.aload_n 0, 1) := by decide +kernel
theorem dX1_mix_33 : decode cX1_mix 33 = .ok (.getfield 15, 3) := by decide +kernel
theorem dX1_mix_36 : decode cX1_mix 36 = .ok (.iload 5, 2) := by decide +kernel
theorem dX1_mix_38 : decode cX1_mix 38 = .ok (.iaload, 1) := by decide +kernel
theorem dX1_mix_39 : decode cX1_mix 39 = .ok (.i2l, 1) := by decide +kernel
theorem dX1_mix_40 : decode cX1_mix 40 = .ok (.ladd, 1) := by decide +kernel
theorem dX1_mix_41 : decode cX1_mix 41 = .ok (.lstore_n 3, 1) := by decide +kernel
theorem dX1_mix_42 : decode cX1_mix 42 = .ok (.ldc2_w 31, 3) := by decide +kernel
theorem dX1_mix_45 : decode cX1_mix 45 = .ok (.lload_n 3, 1) := by decide +kernel
theorem dX1_mix_46 : decode cX1_mix 46 = .ok (.lmul, 1) := by decide +kernel
theorem dX1_mix_47 : decode cX1_mix 47 = .ok (.aload_n 0, 1) := by decide +kernel
theorem dX1_mix_48 : decode cX1_mix 48 = .ok (.getfield 18, 3) := by decide +kernel
theorem dX1_mix_51 : decode cX1_mix 51 = .ok (.iload 5, 2) := by decide +kernel
theorem dX1_mix_53 : decode cX1_mix 53 = .ok (.iaload, 1) := by decide +kernel
theorem dX1_mix_54 : decode cX1_mix 54 = .ok (.i2l, 1) := by decide +kernel
theorem dX1_mix_55 : decode cX1_mix 55 = .ok (.ladd, 1) := by decide +kernel
theorem dX1_mix_56 : decode cX1_mix 56 = .ok (.lstore_n 3, 1) := by decide +kernel
theorem dX1_mix_57 : decode cX1_mix 57 = .ok (.iinc 5 1, 3) := by decide +kernel
theorem dX1_mix_60 : decode cX1_mix 60 = .ok (.goto (-55), 3) := by decide +kernel
theorem dX1_mix_63 : decode cX1_mix 63 = .ok (.lload_n 3, 1) := by decide +kernel
theorem dX1_mix_64 : decode cX1_mix 64 = .ok (.lreturn, 1) := by decide +kernel
theorem dX2_init_0 : decode cX2_init 0 = .ok (.aload_n 0, 1) := by decide +kernel
theorem dX2_init_1 : decode cX2_init 1 = .ok (.invokespecial 3, 3) := by decide +kernel
theorem dX2_init_4 : decode cX2_init 4 = .ok (.aload_n 0, 1) := by decide +kernel
theorem dX2_init_5 : decode cX2_init 5 = .ok (.bipush 60, 2) := by decide +kernel
theorem dX2_init_7 : decode cX2_init 7 = .ok (.newarray .int, 2) := by decide +kernel
theorem dX2_init_9 : decode cX2_init 9 = .ok (.putfield 11, 3) := by decide +kernel
theorem dX2_init_12 : decode cX2_init 12 = .ok (.aload_n 0, 1) := by decide +kernel
theorem dX2_init_13 : decode cX2_init 13 = .ok (.bipush 31, 2) := by decide +kernel
theorem dX2_init_15 : decode cX2_init 15 = .ok (.bipush 13, 2) := by decide +kernel
theorem dX2_init_17 : decode cX2_init 17 = .ok (.multianewarray 17 2, 4) := by decide +kernel
theorem dX2_init_21 : decode cX2_init 21 = .ok (.putfield 19, 3) := by decide +kernel
theorem dX2_init_24 : decode cX2_init 24 = .ok (.aload_n 0, 1) := by decide +kernel
theorem dX2_init_25 : decode cX2_init 25 = .ok (.bipush 13, 2) := by decide +kernel
theorem dX2_init_27 : decode cX2_init 27 = .ok (.newarray .long, 2) := by decide +kernel
theorem dX2_init_29 : decode cX2_init 29 = .ok (.putfield 22, 3) := by decide +kernel
theorem dX2_init_32 : decode cX2_init 32 = .ok (.return_, 1) := by decide +kernel
theorem dX2_lineUp_0 : decode cX2_lineUp 0 = .ok (.aload_n 0, 1) := by decide +kernel
theorem dX2_lineUp_1 : decode cX2_lineUp 1 = .ok (.iconst 0, 1) := by decide +kernel
theorem dX2_lineUp_2 : decode cX2_lineUp 2 = .ok (.putfield 26, 3) := by decide +kernel
theorem dX2_lineUp_5 : decode cX2_lineUp 5 = .ok (.iconst 0, 1) := by decide +kernel
theorem dX2_lineUp_6 : decode cX2_lineUp 6 = .ok (.istore_n 3, 1) := by decide +kernel
theorem dX2_lineUp_7 : decode cX2_lineUp 7 = .ok (.iload_n 3, 1) := by decide +kernel
theorem dX2_lineUp_8 : decode cX2_lineUp 8 = .ok (.aload_n 1, 1) := by decide +kernel
theorem dX2_lineUp_9 : decode cX2_lineUp 9 = .ok (.getfield 30, 3) := by decide +kernel
theorem dX2_lineUp_12 : decode cX2_lineUp 12 = .ok (.if_icmp .ge 49, 3) := by decide +kernel
theorem dX2_lineUp_15 : decode cX2_lineUp 15 = .ok (.aload_n 1, 1) := by decide +kernel
theorem dX2_lineUp_16 : decode cX2_lineUp 16 = .ok (.iload_n 3, 1) := by decide +kernel
theorem dX2_lineUp_17 : decode cX2_lineUp 17 = .ok (.iload_n 2, 1) := by decide +kernel
theorem dX2_lineUp_18 : decode cX2_lineUp 18 = .ok (.invokevirtual 33, 3) := by decide +kernel
theorem dX2_lineUp_21 : decode cX2_lineUp 21 = .ok (.ifCond .eq 34, 3) := by decide +kernel
theorem dX2_lineUp_24 : decode cX2_lineUp 24 = .ok (.aload_n 1, 1) := by decide +kernel
theorem dX2_lineUp_25 : decode cX2_lineUp 25 = .ok (.getfield 37, 3) := by decide +kernel
theorem dX2_lineUp_28 : decode cX2_lineUp 28 = .ok (.iload_n 3, 1) := by decide +kernel
theorem dX2_lineUp_29 : decode cX2_lineUp 29 = .ok (.iaload, 1) := by decide +kernel
theorem dX2_lineUp_30 : decode cX2_lineUp 30 = .ok (.iconst (-1), 1) := by decide +kernel
theorem dX2_lineUp_31 : decode cX2_lineUp 31 = .ok (.if_icmp .eq 24, 3) := by decide +kernel
theorem dX2_lineUp_34 : decode cX2_lineUp 34 = .ok (.aload_n 0, 1) := by decide +kernel
theorem dX2_lineUp_35 : decode cX2_lineUp 35 = .ok (.aload_n 1, 1) := by decide +kernel
theorem dX2_lineUp_36 : decode cX2_lineUp 36 = .ok (.getfield 37, 3) := by decide +kernel
theorem dX2_lineUp_39 : decode cX2_lineUp 39 = .ok (.iload_n 3, 1) := by decide +kernel
theorem dX2_lineUp_40 : decode cX2_lineUp 40 = .ok (.iaload, 1) := by decide +kernel
theorem dX2_lineUp_41 : decode cX2_lineUp 41 = .ok (.sipush 10000, 3) := by decide +kernel
theorem dX2_lineUp_44 : decode cX2_lineUp 44 = .ok (.imul, 1) := by decide +kernel
theorem dX2_lineUp_45 : decode cX2_lineUp 45 = .ok (.aload_n 1, 1) := by decide +kernel
theorem dX2_lineUp_46 : decode cX2_lineUp 46 = .ok (.getfield 40, 3) := by decide +kernel
theorem dX2_lineUp_49 : decode cX2_lineUp 49 = .ok (.iload_n 3, 1) := by decide +kernel
theorem dX2_lineUp_50 : decode cX2_lineUp 50 = .ok (.iaload, 1) := by decide +kernel
theorem dX2_lineUp_51 : decode cX2_lineUp 51 = .ok (.iadd, 1) := by decide +kernel
theorem dX2_lineUp_52 : decode cX2_lineUp 52 = .ok (.invokevirtual 43, 3) := by decide +kernel
theorem dX2_lineUp_55 : decode cX2_lineUp 55 = .ok (.iinc 3 1, 3) := by decide +kernel
theorem dX2_lineUp_58 : decode cX2_lineUp 58 = .ok (.goto (-51), 3) := by decide +kernel
theorem dX2_lineUp_61 : decode cX2_lineUp 61 = .ok (.return_, 1) := by decide +kernel
theorem dX2_putInLine_0 : decode cX2_putInLine 0 = .ok (.aload_n 0, 1) := by decide +kernel
theorem dX2_putInLine_1 : decode cX2_putInLine 1 = .ok (.getfield 26, 3) := by decide +kernel
theorem dX2_putInLine_4 : decode cX2_putInLine 4 = .ok (.aload_n 0, 1) := by decide +kernel
theorem dX2_putInLine_5 : decode cX2_putInLine 5 = .ok (.getfield 11, 3) := by decide +kernel
theorem dX2_putInLine_8 : decode cX2_putInLine 8 = .ok (.arraylength, 1) := by decide +kernel
theorem dX2_putInLine_9 : decode cX2_putInLine 9 = .ok (.if_icmp .lt 4, 3) := by decide +kernel
theorem dX2_putInLine_12 : decode cX2_putInLine 12 = .ok (.return_, 1) := by decide +kernel
theorem dX2_putInLine_13 : decode cX2_putInLine 13 = .ok (.aload_n 0, 1) := by decide +kernel
theorem dX2_putInLine_14 : decode cX2_putInLine 14 = .ok (.getfield 26, 3) := by decide +kernel
theorem dX2_putInLine_17 : decode cX2_putInLine 17 = .ok (.istore_n 2, 1) := by decide +kernel
theorem dX2_putInLine_18 : decode cX2_putInLine 18 = .ok (.iload_n 2, 1) := by decide +kernel
theorem dX2_putInLine_19 : decode cX2_putInLine 19 = .ok (.ifCond .le 35, 3) := by decide +kernel
theorem dX2_putInLine_22 : decode cX2_putInLine 22 = .ok (.aload_n 0, 1) := by decide +kernel
theorem dX2_putInLine_23 : decode cX2_putInLine 23 = .ok (.getfield 11, 3) := by decide +kernel
theorem dX2_putInLine_26 : decode cX2_putInLine 26 = .ok (.iload_n 2, 1) := by decide +kernel
theorem dX2_putInLine_27 : decode cX2_putInLine 27 = .ok (.iconst 1, 1) := by decide +kernel
theorem dX2_putInLine_28 : decode cX2_putInLine 28 = .ok (.isub, 1) := by decide +kernel
theorem dX2_putInLine_29 : decode cX2_putInLine 29 = .ok (.iaload, 1) := by decide +kernel
theorem dX2_putInLine_30 : decode cX2_putInLine 30 = .ok (.iload_n 1, 1) := by decide +kernel
theorem dX2_putInLine_31 : decode cX2_putInLine 31 = .ok (.if_icmp .le 23, 3) := by decide +kernel
theorem dX2_putInLine_34 : decode cX2_putInLine 34 = .ok (.aload_n 0, 1) := by decide +kernel
theorem dX2_putInLine_35 : decode cX2_putInLine 35 = .ok (.getfield 11, 3) := by decide +kernel
theorem dX2_putInLine_38 : decode cX2_putInLine 38 = .ok (.iload_n 2, 1) := by decide +kernel
theorem dX2_putInLine_39 : decode cX2_putInLine 39 = .ok (.aload_n 0, 1) := by decide +kernel
theorem dX2_putInLine_40 : decode cX2_putInLine 40 = .ok (.getfield 11, 3) := by decide +kernel
theorem dX2_putInLine_43 : decode cX2_putInLine 43 = .ok (.iload_n 2, 1) := by decide +kernel
theorem dX2_putInLine_44 : decode cX2_putInLine 44 = .ok (.iconst 1, 1) := by decide +kernel
theorem dX2_putInLine_45 : decode cX2_putInLine 45 = .ok (.isub, 1) := by decide +kernel
theorem dX2_putInLine_46 : decode cX2_putInLine 46 = .ok (.iaload, 1) := by decide +kernel
theorem dX2_putInLine_47 : decode cX2_putInLine 47 = .ok (.iastore, 1) := by decide +kernel
theorem dX2_putInLine_48 : decode cX2_putInLine 48 = .ok (.iinc 2 (-1), 3) := by decide +kernel
theorem dX2_putInLine_51 : decode cX2_putInLine 51 = .ok (.goto (-33), 3) := by decide +kernel
theorem dX2_putInLine_54 : decode cX2_putInLine 54 = .ok (.aload_n 0, 1) := by decide +kernel
theorem dX2_putInLine_55 : decode cX2_putInLine 55 = .ok (.getfield 11, 3) := by decide +kernel
theorem dX2_putInLine_58 : decode cX2_putInLine 58 = .ok (.iload_n 2, 1) := by decide +kernel
theorem dX2_putInLine_59 : decode cX2_putInLine 59 = .ok (.iload_n 1, 1) := by decide +kernel
theorem dX2_putInLine_60 : decode cX2_putInLine 60 = .ok (.iastore, 1) := by decide +kernel
theorem dX2_putInLine_61 : decode cX2_putInLine 61 = .ok (.aload_n 0, 1) := by decide +kernel
theorem dX2_putInLine_62 : decode cX2_putInLine 62 = .ok (.dup, 1) := by decide +kernel
theorem dX2_putInLine_63 : decode cX2_putInLine 63 = .ok (.getfield 26, 3) := by decide +kernel
theorem dX2_putInLine_66 : decode cX2_putInLine 66 = .ok (.iconst 1, 1) := by decide +kernel
theorem dX2_putInLine_67 : decode cX2_putInLine 67 = .ok (.iadd, 1) := by decide +kernel
theorem dX2_putInLine_68 : decode cX2_putInLine 68 = .ok (.putfield 26, 3) := by decide +kernel
theorem dX2_putInLine_71 : decode cX2_putInLine 71 = .ok (.return_, 1) := by decide +kernel
theorem dX2_fallsAt_0 : decode cX2_fallsAt 0 = .ok (.iload_n 1, 1) := by decide +kernel
theorem dX2_fallsAt_1 : decode cX2_fallsAt 1 = .ok (.ifCond .le 40, 3) := by decide +kernel
theorem dX2_fallsAt_4 : decode cX2_fallsAt 4 = .ok (.iload_n 1, 1) := by decide +kernel
theorem dX2_fallsAt_5 : decode cX2_fallsAt 5 = .ok (.aload_n 0, 1) := by decide +kernel
theorem dX2_fallsAt_6 : decode cX2_fallsAt 6 = .ok (.getfield 26, 3) := by decide +kernel
theorem dX2_fallsAt_9 : decode cX2_fallsAt 9 = .ok (.if_icmp .ge 32, 3) := by decide +kernel
theorem dX2_fallsAt_12 : decode cX2_fallsAt 12 = .ok (.aload_n 0, 1) := by decide +kernel
theorem dX2_fallsAt_13 : decode cX2_fallsAt 13 = .ok (.getfield 11, 3) := by decide +kernel
theorem dX2_fallsAt_16 : decode cX2_fallsAt 16 = .ok (.iload_n 1, 1) := by decide +kernel
theorem dX2_fallsAt_17 : decode cX2_fallsAt 17 = .ok (.iaload, 1) := by decide +kernel
theorem dX2_fallsAt_18 : decode cX2_fallsAt 18 = .ok (.sipush 10000, 3) := by decide +kernel
theorem dX2_fallsAt_21 : decode cX2_fallsAt 21 = .ok (.irem, 1) := by decide +kernel
theorem dX2_fallsAt_22 : decode cX2_fallsAt 22 = .ok (.aload_n 0, 1) := by decide +kernel
theorem dX2_fallsAt_23 : decode cX2_fallsAt 23 = .ok (.getfield 11, 3) := by decide +kernel
theorem dX2_fallsAt_26 : decode cX2_fallsAt 26 = .ok (.iload_n 1, 1) := by decide +kernel
theorem dX2_fallsAt_27 : decode cX2_fallsAt 27 = .ok (.iconst 1, 1) := by decide +kernel
theorem dX2_fallsAt_28 : decode cX2_fallsAt 28 = .ok (.isub, 1) := by decide +kernel
theorem dX2_fallsAt_29 : decode cX2_fallsAt 29 = .ok (.iaload, 1) := by decide +kernel
theorem dX2_fallsAt_30 : decode cX2_fallsAt 30 = .ok (.sipush 10000, 3) := by decide +kernel
theorem dX2_fallsAt_33 : decode cX2_fallsAt 33 = .ok (.irem, 1) := by decide +kernel
theorem dX2_fallsAt_34 : decode cX2_fallsAt 34 = .ok (.if_icmp .ge 7, 3) := by decide +kernel
theorem dX2_fallsAt_37 : decode cX2_fallsAt 37 = .ok (.iconst 1, 1) := by decide +kernel
theorem dX2_fallsAt_38 : decode cX2_fallsAt 38 = .ok (.goto 4, 3) := by decide +kernel
theorem dX2_fallsAt_41 : decode cX2_fallsAt 41 = .ok (.iconst 0, 1) := by decide +kernel
theorem dX2_fallsAt_42 : decode cX2_fallsAt 42 = .ok (.ireturn, 1) := by decide +kernel
theorem dX2_runsMet_0 : decode cX2_runsMet 0 = .ok (.aload_n 0, 1) := by decide +kernel
theorem dX2_runsMet_1 : decode cX2_runsMet 1 = .ok (.getfield 26, 3) := by decide +kernel
theorem dX2_runsMet_4 : decode cX2_runsMet 4 = .ok (.ifCond .ne 7, 3) := by decide +kernel
theorem dX2_runsMet_7 : decode cX2_runsMet 7 = .ok (.iconst 0, 1) := by decide +kernel
theorem dX2_runsMet_8 : decode cX2_runsMet 8 = .ok (.goto 4, 3) := by decide +kernel
theorem dX2_runsMet_11 : decode cX2_runsMet 11 = .ok (.iconst 1, 1) := by decide +kernel
theorem dX2_runsMet_12 : decode cX2_runsMet 12 = .ok (.istore_n 1, 1) := by decide +kernel
theorem dX2_runsMet_13 : decode cX2_runsMet 13 = .ok (.iconst 1, 1) := by decide +kernel
theorem dX2_runsMet_14 : decode cX2_runsMet 14 = .ok (.istore_n 2, 1) := by decide +kernel
theorem dX2_runsMet_15 : decode cX2_runsMet 15 = .ok (.iload_n 2, 1) := by decide +kernel
theorem dX2_runsMet_16 : decode cX2_runsMet 16 = .ok (.aload_n 0, 1) := by decide +kernel
theorem dX2_runsMet_17 : decode cX2_runsMet 17 = .ok (.getfield 26, 3) := by decide +kernel
theorem dX2_runsMet_20 : decode cX2_runsMet 20 = .ok (.if_icmp .ge 20, 3) := by decide +kernel
theorem dX2_runsMet_23 : decode cX2_runsMet 23 = .ok (.aload_n 0, 1) := by decide +kernel
theorem dX2_runsMet_24 : decode cX2_runsMet 24 = .ok (.iload_n 2, 1) := by decide +kernel
theorem dX2_runsMet_25 : decode cX2_runsMet 25 = .ok (.invokevirtual 47, 3) := by decide +kernel
theorem dX2_runsMet_28 : decode cX2_runsMet 28 = .ok (.ifCond .eq 6, 3) := by decide +kernel
theorem dX2_runsMet_31 : decode cX2_runsMet 31 = .ok (.iinc 1 1, 3) := by decide +kernel
theorem dX2_runsMet_34 : decode cX2_runsMet 34 = .ok (.iinc 2 1, 3) := by decide +kernel
theorem dX2_runsMet_37 : decode cX2_runsMet 37 = .ok (.goto (-22), 3) := by decide +kernel
theorem dX2_runsMet_40 : decode cX2_runsMet 40 = .ok (.iload_n 1, 1) := by decide +kernel
theorem dX2_runsMet_41 : decode cX2_runsMet 41 = .ok (.ireturn, 1) := by decide +kernel
theorem dX2_firstNewRun_0 : decode cX2_firstNewRun 0 = .ok (.iconst 1, 1) := by decide +kernel
theorem dX2_firstNewRun_1 : decode cX2_firstNewRun 1 = .ok (.istore_n 1, 1) := by decide +kernel
theorem dX2_firstNewRun_2 : decode cX2_firstNewRun 2 = .ok (.iload_n 1, 1) := by decide +kernel
theorem dX2_firstNewRun_3 : decode cX2_firstNewRun 3 = .ok (.aload_n 0, 1) := by decide +kernel
theorem dX2_firstNewRun_4 : decode cX2_firstNewRun 4 = .ok (.getfield 26, 3) := by decide +kernel
theorem dX2_firstNewRun_7 : decode cX2_firstNewRun 7 = .ok (.if_icmp .ge 28, 3) := by decide +kernel
theorem dX2_firstNewRun_10 : decode cX2_firstNewRun 10 = .ok (.aload_n 0, 1) := by decide +kernel
theorem dX2_firstNewRun_11 : decode cX2_firstNewRun 11 = .ok (.iload_n 1, 1) := by decide +kernel
theorem dX2_firstNewRun_12 : decode cX2_firstNewRun 12 = .ok (.invokevirtual 47, 3) := by decide +kernel
theorem dX2_firstNewRun_15 : decode cX2_firstNewRun 15 = .ok (.ifCond .eq 14, 3) := by decide +kernel
theorem dX2_firstNewRun_18 : decode cX2_firstNewRun 18 = .ok (.aload_n 0, 1) := by decide +kernel
theorem dX2_firstNewRun_19 : decode cX2_firstNewRun 19 = .ok (.getfield 11, 3) := by decide +kernel
theorem dX2_firstNewRun_22 : decode cX2_firstNewRun 22 = .ok (.iload_n 1, 1) := by decide +kernel
theorem dX2_firstNewRun_23 : decode cX2_firstNewRun 23 = .ok (.iaload, 1) := by decide +kernel
theorem dX2_firstNewRun_24 : decode cX2_firstNewRun 24 = .ok (.sipush 10000, 3) := by decide +kernel
theorem dX2_firstNewRun_27 : decode cX2_firstNewRun 27 = .ok (.idiv, 1) := by decide +kernel
theorem dX2_firstNewRun_28 : decode cX2_firstNewRun 28 = .ok (.ireturn, 1) := by decide +kernel
theorem dX2_firstNewRun_29 : decode cX2_firstNewRun 29 = .ok (.iinc 1 1, 3) := by decide +kernel
theorem dX2_firstNewRun_32 : decode cX2_firstNewRun 32 = .ok (.goto (-30), 3) := by decide +kernel
theorem dX2_firstNewRun_35 : decode cX2_firstNewRun 35 = .ok (.iconst (-1), 1) := by decide +kernel
theorem dX2_firstNewRun_36 : decode cX2_firstNewRun 36 = .ok (.ireturn, 1) := by decide +kernel
theorem dX2_mark_0 : decode cX2_mark 0 = .ok (.aload_n 0, 1) := by decide +kernel
theorem dX2_mark_1 : decode cX2_mark 1 = .ok (.iconst 0, 1) := by decide +kernel
theorem dX2_mark_2 : decode cX2_mark 2 = .ok (.putfield 51, 3) := by decide +kernel
theorem dX2_mark_5 : decode cX2_mark 5 = .ok (.iconst 0, 1) := by decide +kernel
theorem dX2_mark_6 : decode cX2_mark 6 = .ok (.istore 4, 2) := by decide +kernel
theorem dX2_mark_8 : decode cX2_mark 8 = .ok (.iconst 0, 1) := by decide +kernel
theorem dX2_mark_9 : decode cX2_mark 9 = .ok (.istore 5, 2) := by decide +kernel
theorem dX2_mark_11 : decode cX2_mark 11 = .ok (.iload 5, 2) := by decide +kernel
theorem dX2_mark_13 : decode cX2_mark 13 = .ok (.aload_n 1, 1) := by decide +kernel
theorem dX2_mark_14 : decode cX2_mark 14 = .ok (.getfield 30, 3) := by decide +kernel
theorem dX2_mark_17 : decode cX2_mark 17 = .ok (.if_icmp .ge 57, 3) := by decide +kernel
theorem dX2_mark_20 : decode cX2_mark 20 = .ok (.aload_n 1, 1) := by decide +kernel
theorem dX2_mark_21 : decode cX2_mark 21 = .ok (.iload 5, 2) := by decide +kernel
theorem dX2_mark_23 : decode cX2_mark 23 = .ok (.iload_n 2, 1) := by decide +kernel
theorem dX2_mark_24 : decode cX2_mark 24 = .ok (.invokevirtual 33, 3) := by decide +kernel
theorem dX2_mark_27 : decode cX2_mark 27 = .ok (.ifCond .eq 41, 3) := by decide +kernel
theorem dX2_mark_30 : decode cX2_mark 30 = .ok (.aload_n 1, 1) := by decide +kernel
theorem dX2_mark_31 : decode cX2_mark 31 = .ok (.getfield 37, 3) := by decide +kernel
theorem dX2_mark_34 : decode cX2_mark 34 = .ok (.iload 5, 2) := by decide +kernel
theorem dX2_mark_36 : decode cX2_mark 36 = .ok (.iaload, 1) := by decide +kernel
theorem dX2_mark_37 : decode cX2_mark 37 = .ok (.iconst 0, 1) := by decide +kernel
theorem dX2_mark_38 : decode cX2_mark 38 = .ok (.iload_n 3, 1) := by decide +kernel
theorem dX2_mark_39 : decode cX2_mark 39 = .ok (.iconst 1, 1) := by decide +kernel
theorem dX2_mark_40 : decode cX2_mark 40 = .ok (.isub, 1) := by decide +kernel
theorem dX2_mark_41 : decode cX2_mark 41 = .ok (.invokestatic 54, 3) := by decide +kernel
theorem dX2_mark_44 : decode cX2_mark 44 = .ok (.ifCond .eq 24, 3) := by decide +kernel
theorem dX2_mark_47 : decode cX2_mark 47 = .ok (.aload_n 0, 1) := by decide +kernel
theorem dX2_mark_48 : decode cX2_mark 48 = .ok (.dup, 1) := by decide +kernel
theorem dX2_mark_49 : decode cX2_mark 49 = .ok (.getfield 51, 3) := by decide +kernel
theorem dX2_mark_52 : decode cX2_mark 52 = .ok (.iconst 1, 1) := by decide +kernel
theorem dX2_mark_53 : decode cX2_mark 53 = .ok (.aload_n 1, 1) := by decide +kernel
theorem dX2_mark_54 : decode cX2_mark 54 = .ok (.getfield 37, 3) := by decide +kernel
theorem dX2_mark_57 : decode cX2_mark 57 = .ok (.iload 5, 2) := by decide +kernel
theorem dX2_mark_59 : decode cX2_mark 59 = .ok (.iaload, 1) := by decide +kernel
theorem dX2_mark_60 : decode cX2_mark 60 = .ok (.ishl, 1) := by decide +kernel
theorem dX2_mark_61 : decode cX2_mark 61 = .ok (.ior, 1) := by decide +kernel
theorem dX2_mark_62 : decode cX2_mark 62 = .ok (.putfield 51, 3) := by decide +kernel
theorem dX2_mark_65 : decode cX2_mark 65 = .ok (.iinc 4 1, 3) := by decide +kernel
theorem dX2_mark_68 : decode cX2_mark 68 = .ok (.iinc 5 1, 3) := by decide +kernel
theorem dX2_mark_71 : decode cX2_mark 71 = .ok (.goto (-60), 3) := by decide +kernel
theorem dX2_mark_74 : decode cX2_mark 74 = .ok (.aload_n 0, 1) := by decide +kernel
theorem dX2_mark_75 : decode cX2_mark 75 = .ok (.iload_n 3, 1) := by decide +kernel
theorem dX2_mark_76 : decode cX2_mark 76 = .ok (.invokevirtual 58, 3) := by decide +kernel
theorem dX2_mark_79 : decode cX2_mark 79 = .ok (.iload 4, 2) := by decide +kernel
theorem dX2_mark_81 : decode cX2_mark 81 = .ok (.ireturn, 1) := by decide +kernel
theorem dX2_measureGap_0 : decode cX2_measureGap 0 = .ok (.aload_n 0, 1) := by decide +kernel
theorem dX2_measureGap_1 : decode cX2_measureGap 1 = .ok (.iconst 0, 1) := by decide +kernel
theorem dX2_measureGap_2 : decode cX2_measureGap 2 = .ok (.putfield 61, 3) := by decide +kernel
theorem dX2_measureGap_5 : decode cX2_measureGap 5 = .ok (.aload_n 0, 1) := by decide +kernel
theorem dX2_measureGap_6 : decode cX2_measureGap 6 = .ok (.iconst (-1), 1) := by decide +kernel
theorem dX2_measureGap_7 : decode cX2_measureGap 7 = .ok (.putfield 64, 3) := by decide +kernel
theorem dX2_measureGap_10 : decode cX2_measureGap 10 = .ok (.iconst 0, 1) := by decide +kernel
theorem dX2_measureGap_11 : decode cX2_measureGap 11 = .ok (.istore_n 2, 1) := by decide +kernel
theorem dX2_measureGap_12 : decode cX2_measureGap 12 = .ok (.iconst 0, 1) := by decide +kernel
theorem dX2_measureGap_13 : decode cX2_measureGap 13 = .ok (.istore_n 3, 1) := by decide +kernel
theorem dX2_measureGap_14 : decode cX2_measureGap 14 = .ok (.iload_n 3, 1) := by decide +kernel
theorem dX2_measureGap_15 : decode cX2_measureGap 15 = .ok (.iload_n 1, 1) := by decide +kernel
theorem dX2_measureGap_16 : decode cX2_measureGap 16 = .ok (.if_icmp .ge 51, 3) := by decide +kernel
theorem dX2_measureGap_19 : decode cX2_measureGap 19 = .ok (.aload_n 0, 1) := by decide +kernel
theorem dX2_measureGap_20 : decode cX2_measureGap 20 = .ok (.getfield 51, 3) := by decide +kernel
theorem dX2_measureGap_23 : decode cX2_measureGap 23 = .ok (.iload_n 3, 1) := by decide +kernel
theorem dX2_measureGap_24 : decode cX2_measureGap 24 = .ok (.ishr, 1) := by decide +kernel
theorem dX2_measureGap_25 : decode cX2_measureGap 25 = .ok (.iconst 1, 1) := by decide +kernel
theorem dX2_measureGap_26 : decode cX2_measureGap 26 = .ok (.iand, 1) := by decide +kernel
theorem dX2_measureGap_27 : decode cX2_measureGap 27 = .ok (.iconst 1, 1) := by decide +kernel
theorem dX2_measureGap_28 : decode cX2_measureGap 28 = .ok (.if_icmp .ne 7, 3) := by decide +kernel
theorem dX2_measureGap_31 : decode cX2_measureGap 31 = .ok (.iconst 0, 1) := by decide +kernel
theorem dX2_measureGap_32 : decode cX2_measureGap 32 = .ok (.goto 6, 3) := by decide +kernel
theorem dX2_measureGap_35 : decode cX2_measureGap 35 = .ok (.iload_n 2, 1) := by decide +kernel
theorem dX2_measureGap_36 : decode cX2_measureGap 36 = .ok (.iconst 1, 1) := by decide +kernel
theorem dX2_measureGap_37 : decode cX2_measureGap 37 = .ok (.iadd, 1) := by decide +kernel
theorem dX2_measureGap_38 : decode cX2_measureGap 38 = .ok (.istore_n 2, 1) := by decide +kernel
theorem dX2_measureGap_39 : decode cX2_measureGap 39 = .ok (.iload_n 2, 1) := by decide +kernel
theorem dX2_measureGap_40 : decode cX2_measureGap 40 = .ok (.aload_n 0, 1) := by decide +kernel
theorem dX2_measureGap_41 : decode cX2_measureGap 41 = .ok (.getfield 61, 3) := by decide +kernel
theorem dX2_measureGap_44 : decode cX2_measureGap 44 = .ok (.if_icmp .le 17, 3) := by decide +kernel
theorem dX2_measureGap_47 : decode cX2_measureGap 47 = .ok (.aload_n 0, 1) := by decide +kernel
theorem dX2_measureGap_48 : decode cX2_measureGap 48 = .ok (.iload_n 2, 1) := by decide +kernel
theorem dX2_measureGap_49 : decode cX2_measureGap 49 = .ok (.putfield 61, 3) := by decide +kernel
theorem dX2_measureGap_52 : decode cX2_measureGap 52 = .ok (.aload_n 0, 1) := by decide +kernel
theorem dX2_measureGap_53 : decode cX2_measureGap 53 = .ok (.iload_n 3, 1) := by decide +kernel
theorem dX2_measureGap_54 : decode cX2_measureGap 54 = .ok (.iload_n 2, 1) := by decide +kernel
theorem dX2_measureGap_55 : decode cX2_measureGap 55 = .ok (.isub, 1) := by decide +kernel
theorem dX2_measureGap_56 : decode cX2_measureGap 56 = .ok (.iconst 1, 1) := by decide +kernel
theorem dX2_measureGap_57 : decode cX2_measureGap 57 = .ok (.iadd, 1) := by decide +kernel
theorem dX2_measureGap_58 : decode cX2_measureGap 58 = .ok (.putfield 64, 3) := by decide +kernel
theorem dX2_measureGap_61 : decode cX2_measureGap 61 = .ok (.iinc 3 1, 3) := by decide +kernel
theorem dX2_measureGap_64 : decode cX2_measureGap 64 = .ok (.goto (-50), 3) := by decide +kernel
theorem dX2_measureGap_67 : decode cX2_measureGap 67 = .ok (.return_, 1) := by decide +kernel
theorem dX2_likelihood_0 : decode cX2_likelihood 0 = .ok (.lconst 1, 1) := by decide +kernel
theorem dX2_likelihood_1 : decode cX2_likelihood 1 = .ok (.lstore 4, 2) := by decide +kernel
theorem dX2_likelihood_3 : decode cX2_likelihood 3 = .ok (.iconst 0, 1) := by decide +kernel
theorem dX2_likelihood_4 : decode cX2_likelihood 4 = .ok (.istore 6, 2) := by decide +kernel
theorem dX2_likelihood_6 : decode cX2_likelihood 6 = .ok (.iload 6, 2) := by decide +kernel
theorem dX2_likelihood_8 : decode cX2_likelihood 8 = .ok (.iload_n 2, 1) := by decide +kernel
theorem dX2_likelihood_9 : decode cX2_likelihood 9 = .ok (.if_icmp .ge 16, 3) := by decide +kernel
theorem dX2_likelihood_12 : decode cX2_likelihood 12 = .ok (.lload 4, 2) := by decide +kernel
theorem dX2_likelihood_14 : decode cX2_likelihood 14 = .ok (.iload_n 1, 1) := by decide +kernel
theorem dX2_likelihood_15 : decode cX2_likelihood 15 = .ok (.i2l, 1) := by decide +kernel
theorem dX2_likelihood_16 : decode cX2_likelihood 16 = .ok (.lmul, 1) := by decide +kernel
theorem dX2_likelihood_17 : decode cX2_likelihood 17 = .ok (.lstore 4, 2) := by decide +kernel
theorem dX2_likelihood_19 : decode cX2_likelihood 19 = .ok (.iinc 6 1, 3) := by decide +kernel
theorem dX2_likelihood_22 : decode cX2_likelihood 22 = .ok (.goto (-16), 3) := by decide +kernel
theorem dX2_likelihood_25 : decode cX2_likelihood 25 = .ok (.aload_n 3, 1) := by decide +kernel
theorem dX2_likelihood_26 : decode cX2_likelihood 26 = .ok (.lload 4, 2) := by decide +kernel
theorem dX2_likelihood_28 : decode cX2_likelihood 28 = .ok (.aload_n 0, 1) := by decide +kernel
theorem dX2_likelihood_29 : decode cX2_likelihood 29 = .ok (.iload_n 1, 1) := by decide +kernel
theorem dX2_likelihood_30 : decode cX2_likelihood 30 = .ok (.iload_n 2, 1) := by decide +kernel
theorem dX2_likelihood_31 : decode cX2_likelihood 31 = .ok (.invokevirtual 67, 3) := by decide +kernel
theorem dX2_likelihood_34 : decode cX2_likelihood 34 = .ok (.lsub, 1) := by decide +kernel
theorem dX2_likelihood_35 : decode cX2_likelihood 35 = .ok (.lload 4, 2) := by decide +kernel
theorem dX2_likelihood_37 : decode cX2_likelihood 37 = .ok (.invokevirtual 71, 3) := by decide +kernel
theorem dX2_likelihood_40 : decode cX2_likelihood 40 = .ok (.return_, 1) := by decide +kernel
theorem dX2_waysWithoutGap_0 : decode cX2_waysWithoutGap 0 = .ok (.aload_n 0, 1) := by decide +kernel
theorem dX2_waysWithoutGap_1 : decode cX2_waysWithoutGap 1 = .ok (.getfield 19, 3) := by decide +kernel
theorem dX2_waysWithoutGap_4 : decode cX2_waysWithoutGap 4 = .ok (.iconst 0, 1) := by decide +kernel
theorem dX2_waysWithoutGap_5 : decode cX2_waysWithoutGap 5 = .ok (.aaload, 1) := by decide +kernel
theorem dX2_waysWithoutGap_6 : decode cX2_waysWithoutGap 6 = .ok (.iconst 0, 1) := by decide +kernel
theorem dX2_waysWithoutGap_7 : decode cX2_waysWithoutGap 7 = .ok (.lconst 1, 1) := by decide +kernel
theorem dX2_waysWithoutGap_8 : decode cX2_waysWithoutGap 8 = .ok (.lastore, 1) := by decide +kernel
theorem dX2_waysWithoutGap_9 : decode cX2_waysWithoutGap 9 = .ok (.iconst 1, 1) := by decide +kernel
theorem dX2_waysWithoutGap_10 : decode cX2_waysWithoutGap 10 = .ok (.istore_n 3, 1) := by decide +kernel
theorem dX2_waysWithoutGap_11 : decode cX2_waysWithoutGap 11 = .ok (.iload_n 3, 1) := by decide +kernel
theorem dX2_waysWithoutGap_12 : decode cX2_waysWithoutGap 12 = .ok (.iload_n 1, 1) := by decide +kernel
theorem dX2_waysWithoutGap_13 : decode cX2_waysWithoutGap 13 = .ok (.if_icmp .gt 58, 3) := by decide +kernel
theorem dX2_waysWithoutGap_16 : decode cX2_waysWithoutGap 16 = .ok (.iload_n 3, 1) := by decide +kernel
theorem dX2_waysWithoutGap_17 : decode cX2_waysWithoutGap 17 = .ok (.bipush 30, 2) := by decide +kernel
theorem dX2_waysWithoutGap_19 : decode cX2_waysWithoutGap 19 = .ok (.if_icmp .gt 52, 3) := by decide +kernel
theorem dX2_waysWithoutGap_22 : decode cX2_waysWithoutGap 22 = .ok (.aload_n 0, 1) := by decide +kernel
theorem dX2_waysWithoutGap_23 : decode cX2_waysWithoutGap 23 = .ok (.iload_n 3, 1) := by decide +kernel
theorem dX2_waysWithoutGap_24 : decode cX2_waysWithoutGap 24 = .ok (.iload_n 2, 1) := by decide +kernel
theorem dX2_waysWithoutGap_25 : decode cX2_waysWithoutGap 25 = .ok (.invokevirtual 77, 3) := by decide +kernel
theorem dX2_waysWithoutGap_28 : decode cX2_waysWithoutGap 28 = .ok (.iconst 0, 1) := by decide +kernel
theorem dX2_waysWithoutGap_29 : decode cX2_waysWithoutGap 29 = .ok (.istore 4, 2) := by decide +kernel
theorem dX2_waysWithoutGap_31 : decode cX2_waysWithoutGap 31 = .ok (.iload 4, 2) := by decide +kernel
theorem dX2_waysWithoutGap_33 : decode cX2_waysWithoutGap 33 = .ok (.iload_n 2, 1) := by decide +kernel
theorem dX2_waysWithoutGap_34 : decode cX2_waysWithoutGap 34 = .ok (.if_icmp .gt 31, 3) := by decide +kernel
theorem dX2_waysWithoutGap_37 : decode cX2_waysWithoutGap 37 = .ok (.iload 4, 2) := by decide +kernel
theorem dX2_waysWithoutGap_39 : decode cX2_waysWithoutGap 39 = .ok (.bipush 12, 2) := by decide +kernel
theorem dX2_waysWithoutGap_41 : decode cX2_waysWithoutGap 41 = .ok (.if_icmp .gt 24, 3) := by decide +kernel
theorem dX2_waysWithoutGap_44 : decode cX2_waysWithoutGap 44 = .ok (.aload_n 0, 1) := by decide +kernel
theorem dX2_waysWithoutGap_45 : decode cX2_waysWithoutGap 45 = .ok (.getfield 19, 3) := by decide +kernel
theorem dX2_waysWithoutGap_48 : decode cX2_waysWithoutGap 48 = .ok (.iload_n 3, 1) := by decide +kernel
theorem dX2_waysWithoutGap_49 : decode cX2_waysWithoutGap 49 = .ok (.aaload, 1) := by decide +kernel
theorem dX2_waysWithoutGap_50 : decode cX2_waysWithoutGap 50 = .ok (.iload 4, 2) := by decide +kernel
theorem dX2_waysWithoutGap_52 : decode cX2_waysWithoutGap 52 = .ok (.aload_n 0, 1) := by decide +kernel
theorem dX2_waysWithoutGap_53 : decode cX2_waysWithoutGap 53 = .ok (.iload 4, 2) := by decide +kernel
theorem dX2_waysWithoutGap_55 : decode cX2_waysWithoutGap 55 = .ok (.invokevirtual 81, 3) := by decide +kernel
theorem dX2_waysWithoutGap_58 : decode cX2_waysWithoutGap 58 = .ok (.lastore, 1) := by decide +kernel
theorem dX2_waysWithoutGap_59 : decode cX2_waysWithoutGap 59 = .ok (.iinc 4 1, 3) := by decide +kernel
theorem dX2_waysWithoutGap_62 : decode cX2_waysWithoutGap 62 = .ok (.goto (-31), 3) := by decide +kernel
theorem dX2_waysWithoutGap_65 : decode cX2_waysWithoutGap 65 = .ok (.iinc 3 1, 3) := by decide +kernel
theorem dX2_waysWithoutGap_68 : decode cX2_waysWithoutGap 68 = .ok (.goto (-57), 3) := by decide +kernel
theorem dX2_waysWithoutGap_71 : decode cX2_waysWithoutGap 71 = .ok (.aload_n 0, 1) := by decide +kernel
theorem dX2_waysWithoutGap_72 : decode cX2_waysWithoutGap 72 = .ok (.iload_n 1, 1) := by decide +kernel
theorem dX2_waysWithoutGap_73 : decode cX2_waysWithoutGap 73 = .ok (.iconst 1, 1) := by decide +kernel
theorem dX2_waysWithoutGap_74 : decode cX2_waysWithoutGap 74 = .ok (.iadd, 1) := by decide +kernel
theorem dX2_waysWithoutGap_75 : decode cX2_waysWithoutGap 75 = .ok (.iload_n 2, 1) := by decide +kernel
theorem dX2_waysWithoutGap_76 : decode cX2_waysWithoutGap 76 = .ok (.invokevirtual 77, 3) := by decide +kernel
theorem dX2_waysWithoutGap_79 : decode cX2_waysWithoutGap 79 = .ok (.iload_n 2, 1) := by decide +kernel
theorem dX2_waysWithoutGap_80 : decode cX2_waysWithoutGap 80 = .ok (.iconst 0, 1) := by decide +kernel
theorem dX2_waysWithoutGap_81 : decode cX2_waysWithoutGap 81 = .ok (.bipush 12, 2) := by decide +kernel
theorem dX2_waysWithoutGap_83 : decode cX2_waysWithoutGap 83 = .ok (.invokestatic 54, 3) := by decide +kernel
theorem dX2_waysWithoutGap_86 : decode cX2_waysWithoutGap 86 = .ok (.ifCond .eq 12, 3) := by decide +kernel
theorem dX2_waysWithoutGap_89 : decode cX2_waysWithoutGap 89 = .ok (.aload_n 0, 1) := by decide +kernel
theorem dX2_waysWithoutGap_90 : decode cX2_waysWithoutGap 90 = .ok (.getfield 22, 3) := by decide +kernel
theorem dX2_waysWithoutGap_93 : decode cX2_waysWithoutGap 93 = .ok (.iload_n 2, 1) := by decide +kernel
theorem dX2_waysWithoutGap_94 : decode cX2_waysWithoutGap 94 = .ok (.laload, 1) := by decide +kernel
theorem dX2_waysWithoutGap_95 : decode cX2_waysWithoutGap 95 = .ok (.goto 4, 3) := by decide +kernel
theorem dX2_waysWithoutGap_98 : decode cX2_waysWithoutGap 98 = .ok (.lconst 0, 1) := by decide +kernel
theorem dX2_waysWithoutGap_99 : decode cX2_waysWithoutGap 99 = .ok (.lreturn, 1) := by decide +kernel
theorem dX2_sumNear_0 : decode cX2_sumNear 0 = .ok (.aload_n 0, 1) := by decide +kernel
theorem dX2_sumNear_1 : decode cX2_sumNear 1 = .ok (.getfield 22, 3) := by decide +kernel
theorem dX2_sumNear_4 : decode cX2_sumNear 4 = .ok (.lconst 0, 1) := by decide +kernel
theorem dX2_sumNear_5 : decode cX2_sumNear 5 = .ok (.invokestatic 85, 3) := by decide +kernel
theorem dX2_sumNear_8 : decode cX2_sumNear 8 = .ok (.iconst 0, 1) := by decide +kernel
theorem dX2_sumNear_9 : decode cX2_sumNear 9 = .ok (.iload_n 1, 1) := by decide +kernel
theorem dX2_sumNear_10 : decode cX2_sumNear 10 = .ok (.aload_n 0, 1) := by decide +kernel
theorem dX2_sumNear_11 : decode cX2_sumNear 11 = .ok (.getfield 61, 3) := by decide +kernel
theorem dX2_sumNear_14 : decode cX2_sumNear 14 = .ok (.isub, 1) := by decide +kernel
theorem dX2_sumNear_15 : decode cX2_sumNear 15 = .ok (.invokestatic 91, 3) := by decide +kernel
theorem dX2_sumNear_18 : decode cX2_sumNear 18 = .ok (.istore_n 3, 1) := by decide +kernel
theorem dX2_sumNear_19 : decode cX2_sumNear 19 = .ok (.iload_n 3, 1) := by decide +kernel
theorem dX2_sumNear_20 : decode cX2_sumNear 20 = .ok (.iload_n 1, 1) := by decide +kernel
theorem dX2_sumNear_21 : decode cX2_sumNear 21 = .ok (.if_icmp .ge 56, 3) := by decide +kernel
theorem dX2_sumNear_24 : decode cX2_sumNear 24 = .ok (.iload_n 3, 1) := by decide +kernel
theorem dX2_sumNear_25 : decode cX2_sumNear 25 = .ok (.bipush 30, 2) := by decide +kernel
theorem dX2_sumNear_27 : decode cX2_sumNear 27 = .ok (.if_icmp .gt 50, 3) := by decide +kernel
theorem dX2_sumNear_30 : decode cX2_sumNear 30 = .ok (.iconst 0, 1) := by decide +kernel
theorem dX2_sumNear_31 : decode cX2_sumNear 31 = .ok (.istore 4, 2) := by decide +kernel
theorem dX2_sumNear_33 : decode cX2_sumNear 33 = .ok (.iload 4, 2) := by decide +kernel
theorem dX2_sumNear_35 : decode cX2_sumNear 35 = .ok (.iload_n 2, 1) := by decide +kernel
theorem dX2_sumNear_36 : decode cX2_sumNear 36 = .ok (.if_icmp .gt 35, 3) := by decide +kernel
theorem dX2_sumNear_39 : decode cX2_sumNear 39 = .ok (.iload 4, 2) := by decide +kernel
theorem dX2_sumNear_41 : decode cX2_sumNear 41 = .ok (.bipush 12, 2) := by decide +kernel
theorem dX2_sumNear_43 : decode cX2_sumNear 43 = .ok (.if_icmp .gt 28, 3) := by decide +kernel
theorem dX2_sumNear_46 : decode cX2_sumNear 46 = .ok (.aload_n 0, 1) := by decide +kernel
theorem dX2_sumNear_47 : decode cX2_sumNear 47 = .ok (.getfield 22, 3) := by decide +kernel
theorem dX2_sumNear_50 : decode cX2_sumNear 50 = .ok (.iload 4, 2) := by decide +kernel
theorem dX2_sumNear_52 : decode cX2_sumNear 52 = .ok (.dup2, 1) := by decide +kernel
theorem dX2_sumNear_53 : decode cX2_sumNear 53 = .ok (.laload, 1) := by decide +kernel
theorem dX2_sumNear_54 : decode cX2_sumNear 54 = .ok (.aload_n 0, 1) := by decide +kernel
theorem dX2_sumNear_55 : decode cX2_sumNear 55 = .ok (.getfield 19, 3) := by decide +kernel
theorem dX2_sumNear_58 : decode cX2_sumNear 58 = .ok (.iload_n 3, 1) := by decide +kernel
theorem dX2_sumNear_59 : decode cX2_sumNear 59 = .ok (.aaload, 1) := by decide +kernel
theorem dX2_sumNear_60 : decode cX2_sumNear 60 = .ok (.iload 4, 2) := by decide +kernel
theorem dX2_sumNear_62 : decode cX2_sumNear 62 = .ok (.laload, 1) := by decide +kernel
theorem dX2_sumNear_63 : decode cX2_sumNear 63 = .ok (.ladd, 1) := by decide +kernel
theorem dX2_sumNear_64 : decode cX2_sumNear 64 = .ok (.lastore, 1) := by decide +kernel
theorem dX2_sumNear_65 : decode cX2_sumNear 65 = .ok (.iinc 4 1, 3) := by decide +kernel
theorem dX2_sumNear_68 : decode cX2_sumNear 68 = .ok (.goto (-35), 3) := by decide +kernel
theorem dX2_sumNear_71 : decode cX2_sumNear 71 = .ok (.iinc 3 1, 3) := by decide +kernel
theorem dX2_sumNear_74 : decode cX2_sumNear 74 = .ok (.goto (-55), 3) := by decide +kernel
theorem dX2_sumNear_77 : decode cX2_sumNear 77 = .ok (.return_, 1) := by decide +kernel
theorem dX2_waysToJoin_0 : decode cX2_waysToJoin 0 = .ok (.lconst 0, 1) := by decide +kernel
theorem dX2_waysToJoin_1 : decode cX2_waysToJoin 1 = .ok (.lstore_n 2, 1) := by decide +kernel
theorem dX2_waysToJoin_2 : decode cX2_waysToJoin 2 = .ok (.lconst 1, 1) := by decide +kernel
theorem dX2_waysToJoin_3 : decode cX2_waysToJoin 3 = .ok (.lstore 4, 2) := by decide +kernel
theorem dX2_waysToJoin_5 : decode cX2_waysToJoin 5 = .ok (.iconst 1, 1) := by decide +kernel
theorem dX2_waysToJoin_6 : decode cX2_waysToJoin 6 = .ok (.istore 6, 2) := by decide +kernel
theorem dX2_waysToJoin_8 : decode cX2_waysToJoin 8 = .ok (.iload 6, 2) := by decide +kernel
theorem dX2_waysToJoin_10 : decode cX2_waysToJoin 10 = .ok (.iload_n 1, 1) := by decide +kernel
theorem dX2_waysToJoin_11 : decode cX2_waysToJoin 11 = .ok (.if_icmp .gt 40, 3) := by decide +kernel
theorem dX2_waysToJoin_14 : decode cX2_waysToJoin 14 = .ok (.lload 4, 2) := by decide +kernel
theorem dX2_waysToJoin_16 : decode cX2_waysToJoin 16 = .ok (.iload_n 1, 1) := by decide +kernel
theorem dX2_waysToJoin_17 : decode cX2_waysToJoin 17 = .ok (.iload 6, 2) := by decide +kernel
theorem dX2_waysToJoin_19 : decode cX2_waysToJoin 19 = .ok (.isub, 1) := by decide +kernel
theorem dX2_waysToJoin_20 : decode cX2_waysToJoin 20 = .ok (.iconst 1, 1) := by decide +kernel
theorem dX2_waysToJoin_21 : decode cX2_waysToJoin 21 = .ok (.iadd, 1) := by decide +kernel
theorem dX2_waysToJoin_22 : decode cX2_waysToJoin 22 = .ok (.i2l, 1) := by decide +kernel
theorem dX2_waysToJoin_23 : decode cX2_waysToJoin 23 = .ok (.lmul, 1) := by decide +kernel
theorem dX2_waysToJoin_24 : decode cX2_waysToJoin 24 = .ok (.iload 6, 2) := by decide +kernel
theorem dX2_waysToJoin_26 : decode cX2_waysToJoin 26 = .ok (.i2l, 1) := by decide +kernel
theorem dX2_waysToJoin_27 : decode cX2_waysToJoin 27 = .ok (.ldiv, 1) := by decide +kernel
theorem dX2_waysToJoin_28 : decode cX2_waysToJoin 28 = .ok (.lstore 4, 2) := by decide +kernel
theorem dX2_waysToJoin_30 : decode cX2_waysToJoin 30 = .ok (.lload_n 2, 1) := by decide +kernel
theorem dX2_waysToJoin_31 : decode cX2_waysToJoin 31 = .ok (.lload 4, 2) := by decide +kernel
theorem dX2_waysToJoin_33 : decode cX2_waysToJoin 33 = .ok (.aload_n 0, 1) := by decide +kernel
theorem dX2_waysToJoin_34 : decode cX2_waysToJoin 34 = .ok (.getfield 22, 3) := by decide +kernel
theorem dX2_waysToJoin_37 : decode cX2_waysToJoin 37 = .ok (.iload_n 1, 1) := by decide +kernel
theorem dX2_waysToJoin_38 : decode cX2_waysToJoin 38 = .ok (.iload 6, 2) := by decide +kernel
theorem dX2_waysToJoin_40 : decode cX2_waysToJoin 40 = .ok (.isub, 1) := by decide +kernel
theorem dX2_waysToJoin_41 : decode cX2_waysToJoin 41 = .ok (.laload, 1) := by decide +kernel
theorem dX2_waysToJoin_42 : decode cX2_waysToJoin 42 = .ok (.lmul, 1) := by decide +kernel
theorem dX2_waysToJoin_43 : decode cX2_waysToJoin 43 = .ok (.ladd, 1) := by decide +kernel
theorem dX2_waysToJoin_44 : decode cX2_waysToJoin 44 = .ok (.lstore_n 2, 1) := by decide +kernel
theorem dX2_waysToJoin_45 : decode cX2_waysToJoin 45 = .ok (.iinc 6 1, 3) := by decide +kernel
theorem dX2_waysToJoin_48 : decode cX2_waysToJoin 48 = .ok (.goto (-40), 3) := by decide +kernel
theorem dX2_waysToJoin_51 : decode cX2_waysToJoin 51 = .ok (.lload_n 2, 1) := by decide +kernel
theorem dX2_waysToJoin_52 : decode cX2_waysToJoin 52 = .ok (.lreturn, 1) := by decide +kernel
theorem dX3_init_0 : decode cX3_init 0 = .ok (.aload_n 0, 1) := by decide +kernel
theorem dX3_init_1 : decode cX3_init 1 = .ok (.invokespecial 3, 3) := by decide +kernel
theorem dX3_init_4 : decode cX3_init 4 = .ok (.aload_n 0, 1) := by decide +kernel
theorem dX3_init_5 : decode cX3_init 5 = .ok (.bipush 60, 2) := by decide +kernel
theorem dX3_init_7 : decode cX3_init 7 = .ok (.newarray .int, 2) := by decide +kernel
theorem dX3_init_9 : decode cX3_init 9 = .ok (.putfield 11, 3) := by decide +kernel
theorem dX3_init_12 : decode cX3_init 12 = .ok (.aload_n 0, 1) := by decide +kernel
theorem dX3_init_13 : decode cX3_init 13 = .ok (.bipush 60, 2) := by decide +kernel
theorem dX3_init_15 : decode cX3_init 15 = .ok (.newarray .int, 2) := by decide +kernel
theorem dX3_init_17 : decode cX3_init 17 = .ok (.putfield 15, 3) := by decide +kernel
theorem dX3_init_20 : decode cX3_init 20 = .ok (.aload_n 0, 1) := by decide +kernel
theorem dX3_init_21 : decode cX3_init 21 = .ok (.bipush 60, 2) := by decide +kernel
theorem dX3_init_23 : decode cX3_init 23 = .ok (.newarray .int, 2) := by decide +kernel
theorem dX3_init_25 : decode cX3_init 25 = .ok (.putfield 18, 3) := by decide +kernel
theorem dX3_init_28 : decode cX3_init 28 = .ok (.aload_n 0, 1) := by decide +kernel
theorem dX3_init_29 : decode cX3_init 29 = .ok (.bipush 60, 2) := by decide +kernel
theorem dX3_init_31 : decode cX3_init 31 = .ok (.newarray .int, 2) := by decide +kernel
theorem dX3_init_33 : decode cX3_init 33 = .ok (.putfield 21, 3) := by decide +kernel
theorem dX3_init_36 : decode cX3_init 36 = .ok (.aload_n 0, 1) := by decide +kernel
theorem dX3_init_37 : decode cX3_init 37 = .ok (.bipush 60, 2) := by decide +kernel
theorem dX3_init_39 : decode cX3_init 39 = .ok (.newarray .int, 2) := by decide +kernel
theorem dX3_init_41 : decode cX3_init 41 = .ok (.putfield 24, 3) := by decide +kernel
theorem dX3_init_44 : decode cX3_init 44 = .ok (.aload_n 0, 1) := by decide +kernel
theorem dX3_init_45 : decode cX3_init 45 = .ok (.bipush 60, 2) := by decide +kernel
theorem dX3_init_47 : decode cX3_init 47 = .ok (.newarray .boolean, 2) := by decide +kernel
theorem dX3_init_49 : decode cX3_init 49 = .ok (.putfield 27, 3) := by decide +kernel
theorem dX3_init_52 : decode cX3_init 52 = .ok (.return_, 1) := by decide +kernel
theorem dX3_add_0 : decode cX3_add 0 = .ok (.aload_n 0, 1) := by decide +kernel
theorem dX3_add_1 : decode cX3_add 1 = .ok (.getfield 31, 3) := by decide +kernel
theorem dX3_add_4 : decode cX3_add 4 = .ok (.bipush 60, 2) := by decide +kernel
theorem dX3_add_6 : decode cX3_add 6 = .ok (.if_icmp .lt 6, 3) := by decide +kernel
theorem dX3_add_9 : decode cX3_add 9 = .ok (.bipush (-4), 2) := by decide +kernel
theorem dX3_add_11 : decode cX3_add 11 = .ok (.ireturn, 1) := by decide +kernel
theorem dX3_add_12 : decode cX3_add 12 = .ok (.aload_n 0, 1) := by decide +kernel
theorem dX3_add_13 : decode cX3_add 13 = .ok (.getfield 11, 3) := by decide +kernel
theorem dX3_add_16 : decode cX3_add 16 = .ok (.aload_n 0, 1) := by decide +kernel
theorem dX3_add_17 : decode cX3_add 17 = .ok (.getfield 31, 3) := by decide +kernel
theorem dX3_add_20 : decode cX3_add 20 = .ok (.iload_n 1, 1) := by decide +kernel
theorem dX3_add_21 : decode cX3_add 21 = .ok (.iastore, 1) := by decide +kernel
theorem dX3_add_22 : decode cX3_add 22 = .ok (.aload_n 0, 1) := by decide +kernel
theorem dX3_add_23 : decode cX3_add 23 = .ok (.getfield 15, 3) := by decide +kernel
theorem dX3_add_26 : decode cX3_add 26 = .ok (.aload_n 0, 1) := by decide +kernel
theorem dX3_add_27 : decode cX3_add 27 = .ok (.getfield 31, 3) := by decide +kernel
theorem dX3_add_30 : decode cX3_add 30 = .ok (.iload_n 2, 1) := by decide +kernel
theorem dX3_add_31 : decode cX3_add 31 = .ok (.iastore, 1) := by decide +kernel
theorem dX3_add_32 : decode cX3_add 32 = .ok (.aload_n 0, 1) := by decide +kernel
theorem dX3_add_33 : decode cX3_add 33 = .ok (.getfield 18, 3) := by decide +kernel
theorem dX3_add_36 : decode cX3_add 36 = .ok (.aload_n 0, 1) := by decide +kernel
theorem dX3_add_37 : decode cX3_add 37 = .ok (.getfield 31, 3) := by decide +kernel
theorem dX3_add_40 : decode cX3_add 40 = .ok (.iload_n 3, 1) := by decide +kernel
theorem dX3_add_41 : decode cX3_add 41 = .ok (.iastore, 1) := by decide +kernel
theorem dX3_add_42 : decode cX3_add 42 = .ok (.aload_n 0, 1) := by decide +kernel
theorem dX3_add_43 : decode cX3_add 43 = .ok (.getfield 21, 3) := by decide +kernel
theorem dX3_add_46 : decode cX3_add 46 = .ok (.aload_n 0, 1) := by decide +kernel
theorem dX3_add_47 : decode cX3_add 47 = .ok (.getfield 31, 3) := by decide +kernel
theorem dX3_add_50 : decode cX3_add 50 = .ok (.iload 4, 2) := by decide +kernel
theorem dX3_add_52 : decode cX3_add 52 = .ok (.iastore, 1) := by decide +kernel
theorem dX3_add_53 : decode cX3_add 53 = .ok (.aload_n 0, 1) := by decide +kernel
theorem dX3_add_54 : decode cX3_add 54 = .ok (.getfield 24, 3) := by decide +kernel
theorem dX3_add_57 : decode cX3_add 57 = .ok (.aload_n 0, 1) := by decide +kernel
theorem dX3_add_58 : decode cX3_add 58 = .ok (.getfield 31, 3) := by decide +kernel
theorem dX3_add_61 : decode cX3_add 61 = .ok (.iload 5, 2) := by decide +kernel
theorem dX3_add_63 : decode cX3_add 63 = .ok (.iastore, 1) := by decide +kernel
theorem dX3_add_64 : decode cX3_add 64 = .ok (.aload_n 0, 1) := by decide +kernel
theorem dX3_add_65 : decode cX3_add 65 = .ok (.dup, 1) := by decide +kernel
theorem dX3_add_66 : decode cX3_add 66 = .ok (.getfield 31, 3) := by decide +kernel
theorem dX3_add_69 : decode cX3_add 69 = .ok (.iconst 1, 1) := by decide +kernel
theorem dX3_add_70 : decode cX3_add 70 = .ok (.iadd, 1) := by decide +kernel
theorem dX3_add_71 : decode cX3_add 71 = .ok (.putfield 31, 3) := by decide +kernel
theorem dX3_add_74 : decode cX3_add 74 = .ok (.aload_n 0, 1) := by decide +kernel
theorem dX3_add_75 : decode cX3_add 75 = .ok (.getfield 31, 3) := by decide +kernel
theorem dX3_add_78 : decode cX3_add 78 = .ok (.iconst 1, 1) := by decide +kernel
theorem dX3_add_79 : decode cX3_add 79 = .ok (.isub, 1) := by decide +kernel
theorem dX3_add_80 : decode cX3_add 80 = .ok (.ireturn, 1) := by decide +kernel
theorem dX3_countsFor_0 : decode cX3_countsFor 0 = .ok (.iload_n 1, 1) := by decide +kernel
theorem dX3_countsFor_1 : decode cX3_countsFor 1 = .ok (.ifCond .lt 34, 3) := by decide +kernel
theorem dX3_countsFor_4 : decode cX3_countsFor 4 = .ok (.iload_n 1, 1) := by decide +kernel
theorem dX3_countsFor_5 : decode cX3_countsFor 5 = .ok (.aload_n 0, 1) := by decide +kernel
theorem dX3_countsFor_6 : decode cX3_countsFor 6 = .ok (.getfield 31, 3) := by decide +kernel
theorem dX3_countsFor_9 : decode cX3_countsFor 9 = .ok (.if_icmp .ge 26, 3) := by decide +kernel
theorem dX3_countsFor_12 : decode cX3_countsFor 12 = .ok (.aload_n 0, 1) := by decide +kernel
theorem dX3_countsFor_13 : decode cX3_countsFor 13 = .ok (.getfield 11, 3) := by decide +kernel
theorem dX3_countsFor_16 : decode cX3_countsFor 16 = .ok (.iload_n 1, 1) := by decide +kernel
theorem dX3_countsFor_17 : decode cX3_countsFor 17 = .ok (.iaload, 1) := by decide +kernel
theorem dX3_countsFor_18 : decode cX3_countsFor 18 = .ok (.iload_n 2, 1) := by decide +kernel
theorem dX3_countsFor_19 : decode cX3_countsFor 19 = .ok (.if_icmp .ne 16, 3) := by decide +kernel
theorem dX3_countsFor_22 : decode cX3_countsFor 22 = .ok (.aload_n 0, 1) := by decide +kernel
theorem dX3_countsFor_23 : decode cX3_countsFor 23 = .ok (.getfield 27, 3) := by decide +kernel
theorem dX3_countsFor_26 : decode cX3_countsFor 26 = .ok (.iload_n 1, 1) := by decide +kernel
theorem dX3_countsFor_27 : decode cX3_countsFor 27 = .ok (.baload, 1) := by decide +kernel
theorem dX3_countsFor_28 : decode cX3_countsFor 28 = .ok (.ifCond .ne 7, 3) := by decide +kernel
theorem dX3_countsFor_31 : decode cX3_countsFor 31 = .ok (.iconst 1, 1) := by decide +kernel
theorem dX3_countsFor_32 : decode cX3_countsFor 32 = .ok (.goto 4, 3) := by decide +kernel
theorem dX3_countsFor_35 : decode cX3_countsFor 35 = .ok (.iconst 0, 1) := by decide +kernel
theorem dX3_countsFor_36 : decode cX3_countsFor 36 = .ok (.ireturn, 1) := by decide +kernel
theorem dX3_gather_0 : decode cX3_gather 0 = .ok (.aload_n 3, 1) := by decide +kernel
theorem dX3_gather_1 : decode cX3_gather 1 = .ok (.invokevirtual 35, 3) := by decide +kernel
theorem dX3_gather_4 : decode cX3_gather 4 = .ok (.iconst 0, 1) := by decide +kernel
theorem dX3_gather_5 : decode cX3_gather 5 = .ok (.istore 4, 2) := by decide +kernel
theorem dX3_gather_7 : decode cX3_gather 7 = .ok (.iload 4, 2) := by decide +kernel
theorem dX3_gather_9 : decode cX3_gather 9 = .ok (.aload_n 0, 1) := by decide +kernel
theorem dX3_gather_10 : decode cX3_gather 10 = .ok (.getfield 31, 3) := by decide +kernel
theorem dX3_gather_13 : decode cX3_gather 13 = .ok (.if_icmp .ge 36, 3) := by decide +kernel
theorem dX3_gather_16 : decode cX3_gather 16 = .ok (.iload 4, 2) := by decide +kernel
theorem dX3_gather_18 : decode cX3_gather 18 = .ok (.iload_n 2, 1) := by decide +kernel
theorem dX3_gather_19 : decode cX3_gather 19 = .ok (.if_icmp .eq 24, 3) := by decide +kernel
theorem dX3_gather_22 : decode cX3_gather 22 = .ok (.aload_n 0, 1) := by decide +kernel
theorem dX3_gather_23 : decode cX3_gather 23 = .ok (.iload 4, 2) := by decide +kernel
theorem dX3_gather_25 : decode cX3_gather 25 = .ok (.iload_n 1, 1) := by decide +kernel
theorem dX3_gather_26 : decode cX3_gather 26 = .ok (.invokevirtual 40, 3) := by decide +kernel
theorem dX3_gather_29 : decode cX3_gather 29 = .ok (.ifCond .eq 14, 3) := by decide +kernel
theorem dX3_gather_32 : decode cX3_gather 32 = .ok (.aload_n 3, 1) := by decide +kernel
theorem dX3_gather_33 : decode cX3_gather 33 = .ok (.aload_n 0, 1) := by decide +kernel
theorem dX3_gather_34 : decode cX3_gather 34 = .ok (.getfield 15, 3) := by decide +kernel
theorem dX3_gather_37 : decode cX3_gather 37 = .ok (.iload 4, 2) := by decide +kernel
theorem dX3_gather_39 : decode cX3_gather 39 = .ok (.iaload, 1) := by decide +kernel
theorem dX3_gather_40 : decode cX3_gather 40 = .ok (.invokevirtual 44, 3) := by decide +kernel
theorem dX3_gather_43 : decode cX3_gather 43 = .ok (.iinc 4 1, 3) := by decide +kernel
theorem dX3_gather_46 : decode cX3_gather 46 = .ok (.goto (-39), 3) := by decide +kernel
theorem dX3_gather_49 : decode cX3_gather 49 = .ok (.return_, 1) := by decide +kernel
theorem dX3_withMould_0 : decode cX3_withMould 0 = .ok (.iconst 0, 1) := by decide +kernel
theorem dX3_withMould_1 : decode cX3_withMould 1 = .ok (.istore_n 2, 1) := by decide +kernel
theorem dX3_withMould_2 : decode cX3_withMould 2 = .ok (.iconst 0, 1) := by decide +kernel
theorem dX3_withMould_3 : decode cX3_withMould 3 = .ok (.istore_n 3, 1) := by decide +kernel
theorem dX3_withMould_4 : decode cX3_withMould 4 = .ok (.iload_n 3, 1) := by decide +kernel
theorem dX3_withMould_5 : decode cX3_withMould 5 = .ok (.aload_n 0, 1) := by decide +kernel
theorem dX3_withMould_6 : decode cX3_withMould 6 = .ok (.getfield 31, 3) := by decide +kernel
theorem dX3_withMould_9 : decode cX3_withMould 9 = .ok (.if_icmp .ge 31, 3) := by decide +kernel
theorem dX3_withMould_12 : decode cX3_withMould 12 = .ok (.aload_n 0, 1) := by decide +kernel
theorem dX3_withMould_13 : decode cX3_withMould 13 = .ok (.iload_n 3, 1) := by decide +kernel
theorem dX3_withMould_14 : decode cX3_withMould 14 = .ok (.iload_n 1, 1) := by decide +kernel
theorem dX3_withMould_15 : decode cX3_withMould 15 = .ok (.invokevirtual 40, 3) := by decide +kernel
theorem dX3_withMould_18 : decode cX3_withMould 18 = .ok (.ifCond .eq 16, 3) := by decide +kernel
theorem dX3_withMould_21 : decode cX3_withMould 21 = .ok (.aload_n 0, 1) := by decide +kernel
theorem dX3_withMould_22 : decode cX3_withMould 22 = .ok (.getfield 21, 3) := by decide +kernel
theorem dX3_withMould_25 : decode cX3_withMould 25 = .ok (.iload_n 3, 1) := by decide +kernel
theorem dX3_withMould_26 : decode cX3_withMould 26 = .ok (.iaload, 1) := by decide +kernel
theorem dX3_withMould_27 : decode cX3_withMould 27 = .ok (.iconst (-1), 1) := by decide +kernel
theorem dX3_withMould_28 : decode cX3_withMould 28 = .ok (.if_icmp .eq 6, 3) := by decide +kernel
theorem dX3_withMould_31 : decode cX3_withMould 31 = .ok (.iinc 2 1, 3) := by decide +kernel
theorem dX3_withMould_34 : decode cX3_withMould 34 = .ok (.iinc 3 1, 3) := by decide +kernel
theorem dX3_withMould_37 : decode cX3_withMould 37 = .ok (.goto (-33), 3) := by decide +kernel
theorem dX3_withMould_40 : decode cX3_withMould 40 = .ok (.iload_n 2, 1) := by decide +kernel
theorem dX3_withMould_41 : decode cX3_withMould 41 = .ok (.ireturn, 1) := by decide +kernel
theorem dX3_unlikeMoulds_0 : decode cX3_unlikeMoulds 0 = .ok (.iconst 0, 1) := by decide +kernel
theorem dX3_unlikeMoulds_1 : decode cX3_unlikeMoulds 1 = .ok (.istore_n 2, 1) := by decide +kernel
theorem dX3_unlikeMoulds_2 : decode cX3_unlikeMoulds 2 = .ok (.iconst 0, 1) := by decide +kernel
theorem dX3_unlikeMoulds_3 : decode cX3_unlikeMoulds 3 = .ok (.istore_n 3, 1) := by decide +kernel
theorem dX3_unlikeMoulds_4 : decode cX3_unlikeMoulds 4 = .ok (.iload_n 3, 1) := by decide +kernel
theorem dX3_unlikeMoulds_5 : decode cX3_unlikeMoulds 5 = .ok (.aload_n 0, 1) := by decide +kernel
theorem dX3_unlikeMoulds_6 : decode cX3_unlikeMoulds 6 = .ok (.getfield 31, 3) := by decide +kernel
theorem dX3_unlikeMoulds_9 : decode cX3_unlikeMoulds 9 = .ok (.if_icmp .ge 39, 3) := by decide +kernel
theorem dX3_unlikeMoulds_12 : decode cX3_unlikeMoulds 12 = .ok (.aload_n 0, 1) := by decide +kernel
theorem dX3_unlikeMoulds_13 : decode cX3_unlikeMoulds 13 = .ok (.iload_n 3, 1) := by decide +kernel
theorem dX3_unlikeMoulds_14 : decode cX3_unlikeMoulds 14 = .ok (.iload_n 1, 1) := by decide +kernel
theorem dX3_unlikeMoulds_15 : decode cX3_unlikeMoulds 15 = .ok (.invokevirtual 40, 3) := by decide +kernel
theorem dX3_unlikeMoulds_18 : decode cX3_unlikeMoulds 18 = .ok (.ifCond .eq 24, 3) := by decide +kernel
theorem dX3_unlikeMoulds_21 : decode cX3_unlikeMoulds 21 = .ok (.aload_n 0, 1) := by decide +kernel
theorem dX3_unlikeMoulds_22 : decode cX3_unlikeMoulds 22 = .ok (.getfield 21, 3) := by decide +kernel
theorem dX3_unlikeMoulds_25 : decode cX3_unlikeMoulds 25 = .ok (.iload_n 3, 1) := by decide +kernel
theorem dX3_unlikeMoulds_26 : decode cX3_unlikeMoulds 26 = .ok (.iaload, 1) := by decide +kernel
theorem dX3_unlikeMoulds_27 : decode cX3_unlikeMoulds 27 = .ok (.iconst (-1), 1) := by decide +kernel
theorem dX3_unlikeMoulds_28 : decode cX3_unlikeMoulds 28 = .ok (.if_icmp .eq 14, 3) := by decide +kernel
theorem dX3_unlikeMoulds_31 : decode cX3_unlikeMoulds 31 = .ok (.iload_n 2, 1) := by decide +kernel
theorem dX3_unlikeMoulds_32 : decode cX3_unlikeMoulds 32 = .ok (.iconst 1, 1) := by decide +kernel
theorem dX3_unlikeMoulds_33 : decode cX3_unlikeMoulds 33 = .ok (.aload_n 0, 1) := by decide +kernel
theorem dX3_unlikeMoulds_34 : decode cX3_unlikeMoulds 34 = .ok (.getfield 21, 3) := by decide +kernel
theorem dX3_unlikeMoulds_37 : decode cX3_unlikeMoulds 37 = .ok (.iload_n 3, 1) := by decide +kernel
theorem dX3_unlikeMoulds_38 : decode cX3_unlikeMoulds 38 = .ok (.iaload, 1) := by decide +kernel
theorem dX3_unlikeMoulds_39 : decode cX3_unlikeMoulds 39 = .ok (.ishl, 1) := by decide +kernel
theorem dX3_unlikeMoulds_40 : decode cX3_unlikeMoulds 40 = .ok (.ior, 1) := by decide +kernel
theorem dX3_unlikeMoulds_41 : decode cX3_unlikeMoulds 41 = .ok (.istore_n 2, 1) := by decide +kernel
theorem dX3_unlikeMoulds_42 : decode cX3_unlikeMoulds 42 = .ok (.iinc 3 1, 3) := by decide +kernel
theorem dX3_unlikeMoulds_45 : decode cX3_unlikeMoulds 45 = .ok (.goto (-41), 3) := by decide +kernel
theorem dX3_unlikeMoulds_48 : decode cX3_unlikeMoulds 48 = .ok (.iload_n 2, 1) := by decide +kernel
theorem dX3_unlikeMoulds_49 : decode cX3_unlikeMoulds 49 = .ok (.invokestatic 48, 3) := by decide +kernel
theorem dX3_unlikeMoulds_52 : decode cX3_unlikeMoulds 52 = .ok (.ireturn, 1) := by decide +kernel
theorem dX3_foundAt_0 : decode cX3_foundAt 0 = .ok (.iconst 0, 1) := by decide +kernel
theorem dX3_foundAt_1 : decode cX3_foundAt 1 = .ok (.istore_n 2, 1) := by decide +kernel
theorem dX3_foundAt_2 : decode cX3_foundAt 2 = .ok (.iconst 0, 1) := by decide +kernel
theorem dX3_foundAt_3 : decode cX3_foundAt 3 = .ok (.istore_n 3, 1) := by decide +kernel
theorem dX3_foundAt_4 : decode cX3_foundAt 4 = .ok (.iload_n 3, 1) := by decide +kernel
theorem dX3_foundAt_5 : decode cX3_foundAt 5 = .ok (.aload_n 0, 1) := by decide +kernel
theorem dX3_foundAt_6 : decode cX3_foundAt 6 = .ok (.getfield 31, 3) := by decide +kernel
theorem dX3_foundAt_9 : decode cX3_foundAt 9 = .ok (.if_icmp .ge 31, 3) := by decide +kernel
theorem dX3_foundAt_12 : decode cX3_foundAt 12 = .ok (.aload_n 0, 1) := by decide +kernel
theorem dX3_foundAt_13 : decode cX3_foundAt 13 = .ok (.getfield 24, 3) := by decide +kernel
theorem dX3_foundAt_16 : decode cX3_foundAt 16 = .ok (.iload_n 3, 1) := by decide +kernel
theorem dX3_foundAt_17 : decode cX3_foundAt 17 = .ok (.iaload, 1) := by decide +kernel
theorem dX3_foundAt_18 : decode cX3_foundAt 18 = .ok (.iload_n 1, 1) := by decide +kernel
theorem dX3_foundAt_19 : decode cX3_foundAt 19 = .ok (.if_icmp .ne 15, 3) := by decide +kernel
theorem dX3_foundAt_22 : decode cX3_foundAt 22 = .ok (.aload_n 0, 1) := by decide +kernel
theorem dX3_foundAt_23 : decode cX3_foundAt 23 = .ok (.getfield 27, 3) := by decide +kernel
theorem dX3_foundAt_26 : decode cX3_foundAt 26 = .ok (.iload_n 3, 1) := by decide +kernel
theorem dX3_foundAt_27 : decode cX3_foundAt 27 = .ok (.baload, 1) := by decide +kernel
theorem dX3_foundAt_28 : decode cX3_foundAt 28 = .ok (.ifCond .ne 6, 3) := by decide +kernel
theorem dX3_foundAt_31 : decode cX3_foundAt 31 = .ok (.iinc 2 1, 3) := by decide +kernel
theorem dX3_foundAt_34 : decode cX3_foundAt 34 = .ok (.iinc 3 1, 3) := by decide +kernel
theorem dX3_foundAt_37 : decode cX3_foundAt 37 = .ok (.goto (-33), 3) := by decide +kernel
theorem dX3_foundAt_40 : decode cX3_foundAt 40 = .ok (.iload_n 2, 1) := by decide +kernel
theorem dX3_foundAt_41 : decode cX3_foundAt 41 = .ok (.ireturn, 1) := by decide +kernel
theorem dX3_allDoubted_0 : decode cX3_allDoubted 0 = .ok (.iconst 0, 1) := by decide +kernel
theorem dX3_allDoubted_1 : decode cX3_allDoubted 1 = .ok (.istore_n 1, 1) := by decide +kernel
theorem dX3_allDoubted_2 : decode cX3_allDoubted 2 = .ok (.iconst 0, 1) := by decide +kernel
theorem dX3_allDoubted_3 : decode cX3_allDoubted 3 = .ok (.istore_n 2, 1) := by decide +kernel
theorem dX3_allDoubted_4 : decode cX3_allDoubted 4 = .ok (.iload_n 2, 1) := by decide +kernel
theorem dX3_allDoubted_5 : decode cX3_allDoubted 5 = .ok (.aload_n 0, 1) := by decide +kernel
theorem dX3_allDoubted_6 : decode cX3_allDoubted 6 = .ok (.getfield 31, 3) := by decide +kernel
theorem dX3_allDoubted_9 : decode cX3_allDoubted 9 = .ok (.if_icmp .ge 21, 3) := by decide +kernel
theorem dX3_allDoubted_12 : decode cX3_allDoubted 12 = .ok (.aload_n 0, 1) := by decide +kernel
theorem dX3_allDoubted_13 : decode cX3_allDoubted 13 = .ok (.getfield 27, 3) := by decide +kernel
theorem dX3_allDoubted_16 : decode cX3_allDoubted 16 = .ok (.iload_n 2, 1) := by decide +kernel
theorem dX3_allDoubted_17 : decode cX3_allDoubted 17 = .ok (.baload, 1) := by decide +kernel
theorem dX3_allDoubted_18 : decode cX3_allDoubted 18 = .ok (.ifCond .eq 6, 3) := by decide +kernel
theorem dX3_allDoubted_21 : decode cX3_allDoubted 21 = .ok (.iinc 1 1, 3) := by decide +kernel
theorem dX3_allDoubted_24 : decode cX3_allDoubted 24 = .ok (.iinc 2 1, 3) := by decide +kernel
theorem dX3_allDoubted_27 : decode cX3_allDoubted 27 = .ok (.goto (-23), 3) := by decide +kernel
theorem dX3_allDoubted_30 : decode cX3_allDoubted 30 = .ok (.iload_n 1, 1) := by decide +kernel
theorem dX3_allDoubted_31 : decode cX3_allDoubted 31 = .ok (.ireturn, 1) := by decide +kernel
theorem dX3_mix_0 : decode cX3_mix 0 = .ok (.lload_n 1, 1) := by decide +kernel
theorem dX3_mix_1 : decode cX3_mix 1 = .ok (.lstore_n 3, 1) := by decide +kernel
theorem dX3_mix_2 : decode cX3_mix 2 = .ok (.iconst 0, 1) := by decide +kernel
theorem dX3_mix_3 : decode cX3_mix 3 = .ok (.istore 5, 2) := by decide +kernel
theorem dX3_mix_5 : decode cX3_mix 5 = .ok (.iload 5, 2) := by decide +kernel
theorem dX3_mix_7 : decode cX3_mix 7 = .ok (.aload_n 0, 1) := by decide +kernel
theorem dX3_mix_8 : decode cX3_mix 8 = .ok (.getfield 31, 3) := by decide +kernel
theorem dX3_mix_11 : decode cX3_mix 11 = .ok (.if_icmp .ge 107, 3) := by decide +kernel
theorem dX3_mix_14 : decode cX3_mix 14 = .ok (.ldc2_w 54, 3) := by decide +kernel
theorem dX3_mix_17 : decode cX3_mix 17 = .ok (.lload_n 3, 1) := by decide +kernel
theorem dX3_mix_18 : decode cX3_mix 18 = .ok (.lmul, 1) := by decide +kernel
theorem dX3_mix_19 : decode cX3_mix 19 = .ok (.aload_n 0, 1) := by decide +kernel
theorem dX3_mix_20 : decode cX3_mix 20 = .ok (.getfield 11, 3) := by decide +kernel
theorem dX3_mix_23 : decode cX3_mix 23 = .ok (.iload 5, 2) := by decide +kernel
theorem dX3_mix_25 : decode cX3_mix 25 = .ok (.iaload, 1) := by decide +kernel
theorem dX3_mix_26 : decode cX3_mix 26 = .ok (.i2l, 1) := by decide +kernel
theorem dX3_mix_27 : decode cX3_mix 27 = .ok (.ladd, 1) := by decide +kernel
theorem dX3_mix_28 : decode cX3_mix 28 = .ok (.lstore_n 3, 1) := by decide +kernel
theorem dX3_mix_29 : decode cX3_mix 29 = .ok (.ldc2_w 54, 3) := by decide +kernel
theorem dX3_mix_32 : decode cX3_mix 32 = .ok (.lload_n 3, 1) := by decide +kernel
theorem dX3_mix_33 : decode cX3_mix 33 = .ok (.lmul, 1) := by decide +kernel
theorem dX3_mix_34 : decode cX3_mix 34 = .ok (.aload_n 0, 1) := by decide +kernel
theorem dX3_mix_35 : decode cX3_mix 35 = .ok (.getfield 15, 3) := by decide +kernel
theorem dX3_mix_38 : decode cX3_mix 38 = .ok (.iload 5, 2) := by decide +kernel
theorem dX3_mix_40 : decode cX3_mix 40 = .ok (.iaload, 1) := by decide +kernel
theorem dX3_mix_41 : decode cX3_mix 41 = .ok (.i2l, 1) := by decide +kernel
theorem dX3_mix_42 : decode cX3_mix 42 = .ok (.ladd, 1) := by decide +kernel
theorem dX3_mix_43 : decode cX3_mix 43 = .ok (.lstore_n 3, 1) := by decide +kernel
theorem dX3_mix_44 : decode cX3_mix 44 = .ok (.ldc2_w 54, 3) := by decide +kernel
theorem dX3_mix_47 : decode cX3_mix 47 = .ok (.lload_n 3, 1) := by decide +kernel
theorem dX3_mix_48 : decode cX3_mix 48 = .ok (.lmul, 1) := by decide +kernel
theorem dX3_mix_49 : decode cX3_mix 49 = .ok (.aload_n 0, 1) := by decide +kernel
theorem dX3_mix_50 : decode cX3_mix 50 = .ok (.getfield 18, 3) := by decide +kernel
theorem dX3_mix_53 : decode cX3_mix 53 = .ok (.iload 5, 2) := by decide +kernel
theorem dX3_mix_55 : decode cX3_mix 55 = .ok (.iaload, 1) := by decide +kernel
theorem dX3_mix_56 : decode cX3_mix 56 = .ok (.i2l, 1) := by decide +kernel
theorem dX3_mix_57 : decode cX3_mix 57 = .ok (.ladd, 1) := by decide +kernel
theorem dX3_mix_58 : decode cX3_mix 58 = .ok (.lstore_n 3, 1) := by decide +kernel
theorem dX3_mix_59 : decode cX3_mix 59 = .ok (.ldc2_w 54, 3) := by decide +kernel
theorem dX3_mix_62 : decode cX3_mix 62 = .ok (.lload_n 3, 1) := by decide +kernel
theorem dX3_mix_63 : decode cX3_mix 63 = .ok (.lmul, 1) := by decide +kernel
theorem dX3_mix_64 : decode cX3_mix 64 = .ok (.aload_n 0, 1) := by decide +kernel
theorem dX3_mix_65 : decode cX3_mix 65 = .ok (.getfield 21, 3) := by decide +kernel
theorem dX3_mix_68 : decode cX3_mix 68 = .ok (.iload 5, 2) := by decide +kernel
theorem dX3_mix_70 : decode cX3_mix 70 = .ok (.iaload, 1) := by decide +kernel
theorem dX3_mix_71 : decode cX3_mix 71 = .ok (.i2l, 1) := by decide +kernel
theorem dX3_mix_72 : decode cX3_mix 72 = .ok (.ladd, 1) := by decide +kernel
theorem dX3_mix_73 : decode cX3_mix 73 = .ok (.lstore_n 3, 1) := by decide +kernel
theorem dX3_mix_74 : decode cX3_mix 74 = .ok (.ldc2_w 54, 3) := by decide +kernel
theorem dX3_mix_77 : decode cX3_mix 77 = .ok (.lload_n 3, 1) := by decide +kernel
theorem dX3_mix_78 : decode cX3_mix 78 = .ok (.lmul, 1) := by decide +kernel
theorem dX3_mix_79 : decode cX3_mix 79 = .ok (.aload_n 0, 1) := by decide +kernel
theorem dX3_mix_80 : decode cX3_mix 80 = .ok (.getfield 24, 3) := by decide +kernel
theorem dX3_mix_83 : decode cX3_mix 83 = .ok (.iload 5, 2) := by decide +kernel
theorem dX3_mix_85 : decode cX3_mix 85 = .ok (.iaload, 1) := by decide +kernel
theorem dX3_mix_86 : decode cX3_mix 86 = .ok (.i2l, 1) := by decide +kernel
theorem dX3_mix_87 : decode cX3_mix 87 = .ok (.ladd, 1) := by decide +kernel
theorem dX3_mix_88 : decode cX3_mix 88 = .ok (.lstore_n 3, 1) := by decide +kernel
theorem dX3_mix_89 : decode cX3_mix 89 = .ok (.ldc2_w 54, 3) := by decide +kernel
theorem dX3_mix_92 : decode cX3_mix 92 = .ok (.lload_n 3, 1) := by decide +kernel
theorem dX3_mix_93 : decode cX3_mix 93 = .ok (.lmul, 1) := by decide +kernel
theorem dX3_mix_94 : decode cX3_mix 94 = .ok (.aload_n 0, 1) := by decide +kernel
theorem dX3_mix_95 : decode cX3_mix 95 = .ok (.getfield 27, 3) := by decide +kernel
theorem dX3_mix_98 : decode cX3_mix 98 = .ok (.iload 5, 2) := by decide +kernel
theorem dX3_mix_100 : decode cX3_mix 100 = .ok (.baload, 1) := by decide +kernel
theorem dX3_mix_101 : decode cX3_mix 101 = .ok (.ifCond .eq 7, 3) := by decide +kernel
theorem dX3_mix_104 : decode cX3_mix 104 = .ok (.iconst 1, 1) := by decide +kernel
theorem dX3_mix_105 : decode cX3_mix 105 = .ok (.goto 4, 3) := by decide +kernel
theorem dX3_mix_108 : decode cX3_mix 108 = .ok (.iconst 0, 1) := by decide +kernel
theorem dX3_mix_109 : decode cX3_mix 109 = .ok (.i2l, 1) := by decide +kernel
theorem dX3_mix_110 : decode cX3_mix 110 = .ok (.ladd, 1) := by decide +kernel
theorem dX3_mix_111 : decode cX3_mix 111 = .ok (.lstore_n 3, 1) := by decide +kernel
theorem dX3_mix_112 : decode cX3_mix 112 = .ok (.iinc 5 1, 3) := by decide +kernel
theorem dX3_mix_115 : decode cX3_mix 115 = .ok (.goto (-110), 3) := by decide +kernel
theorem dX3_mix_118 : decode cX3_mix 118 = .ok (.lload_n 3, 1) := by decide +kernel
theorem dX3_mix_119 : decode cX3_mix 119 = .ok (.lreturn, 1) := by decide +kernel
theorem dX4_init_0 : decode cX4_init 0 = .ok (.aload_n 0, 1) := by decide +kernel
theorem dX4_init_1 : decode cX4_init 1 = .ok (.invokespecial 1, 3) := by decide +kernel
theorem dX4_init_4 : decode cX4_init 4 = .ok (.aload_n 0, 1) := by decide +kernel
theorem dX4_init_5 : decode cX4_init 5 = .ok (.new 7, 3) := by decide +kernel
theorem dX4_init_8 : decode cX4_init 8 = .ok (.dup, 1) := by decide +kernel
theorem dX4_init_9 : decode cX4_init 9 = .ok (.invokespecial 9, 3) := by decide +kernel
theorem dX4_init_12 : decode cX4_init 12 = .ok (.putfield 10, 3) := by decide +kernel
theorem dX4_init_15 : decode cX4_init 15 = .ok (.aload_n 0, 1) := by decide +kernel
theorem dX4_init_16 : decode cX4_init 16 = .ok (.new 7, 3) := by decide +kernel
theorem dX4_init_19 : decode cX4_init 19 = .ok (.dup, 1) := by decide +kernel
theorem dX4_init_20 : decode cX4_init 20 = .ok (.invokespecial 9, 3) := by decide +kernel
theorem dX4_init_23 : decode cX4_init 23 = .ok (.putfield 16, 3) := by decide +kernel
theorem dX4_init_26 : decode cX4_init 26 = .ok (.aload_n 0, 1) := by decide +kernel
theorem dX4_init_27 : decode cX4_init 27 = .ok (.new 7, 3) := by decide +kernel
theorem dX4_init_30 : decode cX4_init 30 = .ok (.dup, 1) := by decide +kernel
theorem dX4_init_31 : decode cX4_init 31 = .ok (.invokespecial 9, 3) := by decide +kernel
theorem dX4_init_34 : decode cX4_init 34 = .ok (.putfield 19, 3) := by decide +kernel
theorem dX4_init_37 : decode cX4_init 37 = .ok (.aload_n 0, 1) := by decide +kernel
theorem dX4_init_38 : decode cX4_init 38 = .ok (.new 7, 3) := by decide +kernel
theorem dX4_init_41 : decode cX4_init 41 = .ok (.dup, 1) := by decide +kernel
theorem dX4_init_42 : decode cX4_init 42 = .ok (.invokespecial 9, 3) := by decide +kernel
theorem dX4_init_45 : decode cX4_init 45 = .ok (.putfield 22, 3) := by decide +kernel
theorem dX4_init_48 : decode cX4_init 48 = .ok (.aload_n 0, 1) := by decide +kernel
theorem dX4_init_49 : decode cX4_init 49 = .ok (.getfield 16, 3) := by decide +kernel
theorem dX4_init_52 : decode cX4_init 52 = .ok (.lconst 1, 1) := by decide +kernel
theorem dX4_init_53 : decode cX4_init 53 = .ok (.invokevirtual 25, 3) := by decide +kernel
theorem dX4_init_56 : decode cX4_init 56 = .ok (.return_, 1) := by decide +kernel
theorem dX4_become_0 : decode cX4_become 0 = .ok (.lload_n 1, 1) := by decide +kernel
theorem dX4_become_1 : decode cX4_become 1 = .ok (.lload_n 3, 1) := by decide +kernel
theorem dX4_become_2 : decode cX4_become 2 = .ok (.invokestatic 29, 3) := by decide +kernel
theorem dX4_become_5 : decode cX4_become 5 = .ok (.lstore 5, 2) := by decide +kernel
theorem dX4_become_7 : decode cX4_become 7 = .ok (.lload 5, 2) := by decide +kernel
theorem dX4_become_9 : decode cX4_become 9 = .ok (.lconst 0, 1) := by decide +kernel
theorem dX4_become_10 : decode cX4_become 10 = .ok (.lcmp, 1) := by decide +kernel
theorem dX4_become_11 : decode cX4_become 11 = .ok (.ifCond .le 31, 3) := by decide +kernel
theorem dX4_become_14 : decode cX4_become 14 = .ok (.lload_n 3, 1) := by decide +kernel
theorem dX4_become_15 : decode cX4_become 15 = .ok (.lconst 0, 1) := by decide +kernel
theorem dX4_become_16 : decode cX4_become 16 = .ok (.lcmp, 1) := by decide +kernel
theorem dX4_become_17 : decode cX4_become 17 = .ok (.ifCond .le 25, 3) := by decide +kernel
theorem dX4_become_20 : decode cX4_become 20 = .ok (.aload_n 0, 1) := by decide +kernel
theorem dX4_become_21 : decode cX4_become 21 = .ok (.getfield 10, 3) := by decide +kernel
theorem dX4_become_24 : decode cX4_become 24 = .ok (.lload_n 1, 1) := by decide +kernel
theorem dX4_become_25 : decode cX4_become 25 = .ok (.lload 5, 2) := by decide +kernel
theorem dX4_become_27 : decode cX4_become 27 = .ok (.ldiv, 1) := by decide +kernel
theorem dX4_become_28 : decode cX4_become 28 = .ok (.invokevirtual 25, 3) := by decide +kernel
theorem dX4_become_31 : decode cX4_become 31 = .ok (.aload_n 0, 1) := by decide +kernel
theorem dX4_become_32 : decode cX4_become 32 = .ok (.getfield 16, 3) := by decide +kernel
theorem dX4_become_35 : decode cX4_become 35 = .ok (.lload_n 3, 1) := by decide +kernel
theorem dX4_become_36 : decode cX4_become 36 = .ok (.lload 5, 2) := by decide +kernel
theorem dX4_become_38 : decode cX4_become 38 = .ok (.ldiv, 1) := by decide +kernel
theorem dX4_become_39 : decode cX4_become 39 = .ok (.invokevirtual 25, 3) := by decide +kernel
theorem dX4_become_42 : decode cX4_become 42 = .ok (.return_, 1) := by decide +kernel
theorem dX4_become__0 : decode cX4_become_ 0 = .ok (.aload_n 0, 1) := by decide +kernel
theorem dX4_become__1 : decode cX4_become_ 1 = .ok (.getfield 10, 3) := by decide +kernel
theorem dX4_become__4 : decode cX4_become_ 4 = .ok (.aload_n 1, 1) := by decide +kernel
theorem dX4_become__5 : decode cX4_become_ 5 = .ok (.invokevirtual 35, 3) := by decide +kernel
theorem dX4_become__8 : decode cX4_become_ 8 = .ok (.aload_n 0, 1) := by decide +kernel
theorem dX4_become__9 : decode cX4_become_ 9 = .ok (.getfield 16, 3) := by decide +kernel
theorem dX4_become__12 : decode cX4_become_ 12 = .ok (.aload_n 2, 1) := by decide +kernel
theorem dX4_become__13 : decode cX4_become_ 13 = .ok (.invokevirtual 35, 3) := by decide +kernel
theorem dX4_become__16 : decode cX4_become_ 16 = .ok (.aload_n 0, 1) := by decide +kernel
theorem dX4_become__17 : decode cX4_become_ 17 = .ok (.invokevirtual 39, 3) := by decide +kernel
theorem dX4_become__20 : decode cX4_become_ 20 = .ok (.return_, 1) := by decide +kernel
theorem dX4_becomeOneBy_0 : decode cX4_becomeOneBy 0 = .ok (.aload_n 0, 1) := by decide +kernel
theorem dX4_becomeOneBy_1 : decode cX4_becomeOneBy 1 = .ok (.getfield 10, 3) := by decide +kernel
theorem dX4_becomeOneBy_4 : decode cX4_becomeOneBy 4 = .ok (.lconst 1, 1) := by decide +kernel
theorem dX4_becomeOneBy_5 : decode cX4_becomeOneBy 5 = .ok (.invokevirtual 25, 3) := by decide +kernel
theorem dX4_becomeOneBy_8 : decode cX4_becomeOneBy 8 = .ok (.aload_n 0, 1) := by decide +kernel
theorem dX4_becomeOneBy_9 : decode cX4_becomeOneBy 9 = .ok (.getfield 16, 3) := by decide +kernel
theorem dX4_becomeOneBy_12 : decode cX4_becomeOneBy 12 = .ok (.aload_n 1, 1) := by decide +kernel
theorem dX4_becomeOneBy_13 : decode cX4_becomeOneBy 13 = .ok (.invokevirtual 35, 3) := by decide +kernel
theorem dX4_becomeOneBy_16 : decode cX4_becomeOneBy 16 = .ok (.return_, 1) := by decide +kernel
theorem dX4_times_0 : decode cX4_times 0 = .ok (.iload_n 1, 1) := by decide +kernel
theorem dX4_times_1 : decode cX4_times 1 = .ok (.i2l, 1) := by decide +kernel
theorem dX4_times_2 : decode cX4_times 2 = .ok (.aload_n 0, 1) := by decide +kernel
theorem dX4_times_3 : decode cX4_times 3 = .ok (.getfield 16, 3) := by decide +kernel
theorem dX4_times_6 : decode cX4_times 6 = .ok (.iload_n 1, 1) := by decide +kernel
theorem dX4_times_7 : decode cX4_times 7 = .ok (.invokevirtual 42, 3) := by decide +kernel
theorem dX4_times_10 : decode cX4_times 10 = .ok (.i2l, 1) := by decide +kernel
theorem dX4_times_11 : decode cX4_times 11 = .ok (.invokestatic 29, 3) := by decide +kernel
theorem dX4_times_14 : decode cX4_times 14 = .ok (.l2i, 1) := by decide +kernel
theorem dX4_times_15 : decode cX4_times 15 = .ok (.istore_n 2, 1) := by decide +kernel
theorem dX4_times_16 : decode cX4_times 16 = .ok (.iload_n 2, 1) := by decide +kernel
theorem dX4_times_17 : decode cX4_times 17 = .ok (.ifCond .le 21, 3) := by decide +kernel
theorem dX4_times_20 : decode cX4_times 20 = .ok (.aload_n 0, 1) := by decide +kernel
theorem dX4_times_21 : decode cX4_times 21 = .ok (.getfield 16, 3) := by decide +kernel
theorem dX4_times_24 : decode cX4_times 24 = .ok (.iload_n 2, 1) := by decide +kernel
theorem dX4_times_25 : decode cX4_times 25 = .ok (.invokevirtual 46, 3) := by decide +kernel
theorem dX4_times_28 : decode cX4_times 28 = .ok (.aload_n 0, 1) := by decide +kernel
theorem dX4_times_29 : decode cX4_times 29 = .ok (.getfield 10, 3) := by decide +kernel
theorem dX4_times_32 : decode cX4_times 32 = .ok (.iload_n 1, 1) := by decide +kernel
theorem dX4_times_33 : decode cX4_times 33 = .ok (.iload_n 2, 1) := by decide +kernel
theorem dX4_times_34 : decode cX4_times 34 = .ok (.idiv, 1) := by decide +kernel
theorem dX4_times_35 : decode cX4_times 35 = .ok (.invokevirtual 50, 3) := by decide +kernel
theorem dX4_times_38 : decode cX4_times 38 = .ok (.return_, 1) := by decide +kernel
theorem dX4_lower_0 : decode cX4_lower 0 = .ok (.aload_n 0, 1) := by decide +kernel
theorem dX4_lower_1 : decode cX4_lower 1 = .ok (.getfield 10, 3) := by decide +kernel
theorem dX4_lower_4 : decode cX4_lower 4 = .ok (.getfield 53, 3) := by decide +kernel
theorem dX4_lower_7 : decode cX4_lower 7 = .ok (.ifCond .ne 12, 3) := by decide +kernel
theorem dX4_lower_10 : decode cX4_lower 10 = .ok (.aload_n 0, 1) := by decide +kernel
theorem dX4_lower_11 : decode cX4_lower 11 = .ok (.getfield 16, 3) := by decide +kernel
theorem dX4_lower_14 : decode cX4_lower 14 = .ok (.lconst 1, 1) := by decide +kernel
theorem dX4_lower_15 : decode cX4_lower 15 = .ok (.invokevirtual 25, 3) := by decide +kernel
theorem dX4_lower_18 : decode cX4_lower 18 = .ok (.return_, 1) := by decide +kernel
theorem dX4_lower_19 : decode cX4_lower 19 = .ok (.aload_n 0, 1) := by decide +kernel
theorem dX4_lower_20 : decode cX4_lower 20 = .ok (.getfield 10, 3) := by decide +kernel
theorem dX4_lower_23 : decode cX4_lower 23 = .ok (.invokevirtual 57, 3) := by decide +kernel
theorem dX4_lower_26 : decode cX4_lower 26 = .ok (.aload_n 0, 1) := by decide +kernel
theorem dX4_lower_27 : decode cX4_lower 27 = .ok (.getfield 16, 3) := by decide +kernel
theorem dX4_lower_30 : decode cX4_lower 30 = .ok (.invokevirtual 57, 3) := by decide +kernel
theorem dX4_lower_33 : decode cX4_lower 33 = .ok (.invokestatic 61, 3) := by decide +kernel
theorem dX4_lower_36 : decode cX4_lower 36 = .ok (.istore_n 1, 1) := by decide +kernel
theorem dX4_lower_37 : decode cX4_lower 37 = .ok (.aload_n 0, 1) := by decide +kernel
theorem dX4_lower_38 : decode cX4_lower 38 = .ok (.getfield 10, 3) := by decide +kernel
theorem dX4_lower_41 : decode cX4_lower 41 = .ok (.iload_n 1, 1) := by decide +kernel
theorem dX4_lower_42 : decode cX4_lower 42 = .ok (.invokevirtual 67, 3) := by decide +kernel
theorem dX4_lower_45 : decode cX4_lower 45 = .ok (.aload_n 0, 1) := by decide +kernel
theorem dX4_lower_46 : decode cX4_lower 46 = .ok (.getfield 16, 3) := by decide +kernel
theorem dX4_lower_49 : decode cX4_lower 49 = .ok (.iload_n 1, 1) := by decide +kernel
theorem dX4_lower_50 : decode cX4_lower 50 = .ok (.invokevirtual 67, 3) := by decide +kernel
theorem dX4_lower_53 : decode cX4_lower 53 = .ok (.aload_n 0, 1) := by decide +kernel
theorem dX4_lower_54 : decode cX4_lower 54 = .ok (.invokevirtual 70, 3) := by decide +kernel
theorem dX4_lower_57 : decode cX4_lower 57 = .ok (.aload_n 0, 1) := by decide +kernel
theorem dX4_lower_58 : decode cX4_lower 58 = .ok (.getfield 10, 3) := by decide +kernel
theorem dX4_lower_61 : decode cX4_lower 61 = .ok (.aload_n 0, 1) := by decide +kernel
theorem dX4_lower_62 : decode cX4_lower 62 = .ok (.getfield 19, 3) := by decide +kernel
theorem dX4_lower_65 : decode cX4_lower 65 = .ok (.invokevirtual 73, 3) := by decide +kernel
theorem dX4_lower_68 : decode cX4_lower 68 = .ok (.aload_n 0, 1) := by decide +kernel
theorem dX4_lower_69 : decode cX4_lower 69 = .ok (.getfield 16, 3) := by decide +kernel
theorem dX4_lower_72 : decode cX4_lower 72 = .ok (.aload_n 0, 1) := by decide +kernel
theorem dX4_lower_73 : decode cX4_lower 73 = .ok (.getfield 19, 3) := by decide +kernel
theorem dX4_lower_76 : decode cX4_lower 76 = .ok (.invokevirtual 73, 3) := by decide +kernel
theorem dX4_lower_79 : decode cX4_lower 79 = .ok (.return_, 1) := by decide +kernel
theorem dX4_measureOdd_0 : decode cX4_measureOdd 0 = .ok (.aload_n 0, 1) := by decide +kernel
theorem dX4_measureOdd_1 : decode cX4_measureOdd 1 = .ok (.getfield 19, 3) := by decide +kernel
theorem dX4_measureOdd_4 : decode cX4_measureOdd 4 = .ok (.aload_n 0, 1) := by decide +kernel
theorem dX4_measureOdd_5 : decode cX4_measureOdd 5 = .ok (.getfield 10, 3) := by decide +kernel
theorem dX4_measureOdd_8 : decode cX4_measureOdd 8 = .ok (.invokevirtual 35, 3) := by decide +kernel
theorem dX4_measureOdd_11 : decode cX4_measureOdd 11 = .ok (.aload_n 0, 1) := by decide +kernel
theorem dX4_measureOdd_12 : decode cX4_measureOdd 12 = .ok (.getfield 19, 3) := by decide +kernel
theorem dX4_measureOdd_15 : decode cX4_measureOdd 15 = .ok (.aload_n 0, 1) := by decide +kernel
theorem dX4_measureOdd_16 : decode cX4_measureOdd 16 = .ok (.getfield 19, 3) := by decide +kernel
theorem dX4_measureOdd_19 : decode cX4_measureOdd 19 = .ok (.invokevirtual 57, 3) := by decide +kernel
theorem dX4_measureOdd_22 : decode cX4_measureOdd 22 = .ok (.invokevirtual 67, 3) := by decide +kernel
theorem dX4_measureOdd_25 : decode cX4_measureOdd 25 = .ok (.aload_n 0, 1) := by decide +kernel
theorem dX4_measureOdd_26 : decode cX4_measureOdd 26 = .ok (.getfield 22, 3) := by decide +kernel
theorem dX4_measureOdd_29 : decode cX4_measureOdd 29 = .ok (.aload_n 0, 1) := by decide +kernel
theorem dX4_measureOdd_30 : decode cX4_measureOdd 30 = .ok (.getfield 16, 3) := by decide +kernel
theorem dX4_measureOdd_33 : decode cX4_measureOdd 33 = .ok (.invokevirtual 35, 3) := by decide +kernel
theorem dX4_measureOdd_36 : decode cX4_measureOdd 36 = .ok (.aload_n 0, 1) := by decide +kernel
theorem dX4_measureOdd_37 : decode cX4_measureOdd 37 = .ok (.getfield 22, 3) := by decide +kernel
theorem dX4_measureOdd_40 : decode cX4_measureOdd 40 = .ok (.aload_n 0, 1) := by decide +kernel
theorem dX4_measureOdd_41 : decode cX4_measureOdd 41 = .ok (.getfield 22, 3) := by decide +kernel
theorem dX4_measureOdd_44 : decode cX4_measureOdd 44 = .ok (.invokevirtual 57, 3) := by decide +kernel
theorem dX4_measureOdd_47 : decode cX4_measureOdd 47 = .ok (.invokevirtual 67, 3) := by decide +kernel
theorem dX4_measureOdd_50 : decode cX4_measureOdd 50 = .ok (.aload_n 0, 1) := by decide +kernel
theorem dX4_measureOdd_51 : decode cX4_measureOdd 51 = .ok (.getfield 19, 3) := by decide +kernel
theorem dX4_measureOdd_54 : decode cX4_measureOdd 54 = .ok (.aload_n 0, 1) := by decide +kernel
theorem dX4_measureOdd_55 : decode cX4_measureOdd 55 = .ok (.getfield 22, 3) := by decide +kernel
theorem dX4_measureOdd_58 : decode cX4_measureOdd 58 = .ok (.invokevirtual 76, 3) := by decide +kernel
theorem dX4_measureOdd_61 : decode cX4_measureOdd 61 = .ok (.istore_n 1, 1) := by decide +kernel
theorem dX4_measureOdd_62 : decode cX4_measureOdd 62 = .ok (.iconst 0, 1) := by decide +kernel
theorem dX4_measureOdd_63 : decode cX4_measureOdd 63 = .ok (.istore_n 2, 1) := by decide +kernel
theorem dX4_measureOdd_64 : decode cX4_measureOdd 64 = .ok (.iload_n 2, 1) := by decide +kernel
theorem dX4_measureOdd_65 : decode cX4_measureOdd 65 = .ok (.sipush 3840, 3) := by decide +kernel
theorem dX4_measureOdd_68 : decode cX4_measureOdd 68 = .ok (.if_icmp .ge 68, 3) := by decide +kernel
theorem dX4_measureOdd_71 : decode cX4_measureOdd 71 = .ok (.iload_n 1, 1) := by decide +kernel
theorem dX4_measureOdd_72 : decode cX4_measureOdd 72 = .ok (.ifCond .eq 64, 3) := by decide +kernel
theorem dX4_measureOdd_75 : decode cX4_measureOdd 75 = .ok (.iload_n 1, 1) := by decide +kernel
theorem dX4_measureOdd_76 : decode cX4_measureOdd 76 = .ok (.ifCond .le 10, 3) := by decide +kernel
theorem dX4_measureOdd_79 : decode cX4_measureOdd 79 = .ok (.aload_n 0, 1) := by decide +kernel
theorem dX4_measureOdd_80 : decode cX4_measureOdd 80 = .ok (.getfield 19, 3) := by decide +kernel
theorem dX4_measureOdd_83 : decode cX4_measureOdd 83 = .ok (.goto 7, 3) := by decide +kernel
theorem dX4_measureOdd_86 : decode cX4_measureOdd 86 = .ok (.aload_n 0, 1) := by decide +kernel
theorem dX4_measureOdd_87 : decode cX4_measureOdd 87 = .ok (.getfield 22, 3) := by decide +kernel
theorem dX4_measureOdd_90 : decode cX4_measureOdd 90 = .ok (.astore_n 3, 1) := by decide +kernel
theorem dX4_measureOdd_91 : decode cX4_measureOdd 91 = .ok (.aload_n 3, 1) := by decide +kernel
theorem dX4_measureOdd_92 : decode cX4_measureOdd 92 = .ok (.iload_n 1, 1) := by decide +kernel
theorem dX4_measureOdd_93 : decode cX4_measureOdd 93 = .ok (.ifCond .le 10, 3) := by decide +kernel
theorem dX4_measureOdd_96 : decode cX4_measureOdd 96 = .ok (.aload_n 0, 1) := by decide +kernel
theorem dX4_measureOdd_97 : decode cX4_measureOdd 97 = .ok (.getfield 22, 3) := by decide +kernel
theorem dX4_measureOdd_100 : decode cX4_measureOdd 100 = .ok (.goto 7, 3) := by decide +kernel
theorem dX4_measureOdd_103 : decode cX4_measureOdd 103 = .ok (.aload_n 0, 1) := by decide +kernel
theorem dX4_measureOdd_104 : decode cX4_measureOdd 104 = .ok (.getfield 19, 3) := by decide +kernel
theorem dX4_measureOdd_107 : decode cX4_measureOdd 107 = .ok (.invokevirtual 80, 3) := by decide +kernel
theorem dX4_measureOdd_110 : decode cX4_measureOdd 110 = .ok (.aload_n 3, 1) := by decide +kernel
theorem dX4_measureOdd_111 : decode cX4_measureOdd 111 = .ok (.aload_n 3, 1) := by decide +kernel
theorem dX4_measureOdd_112 : decode cX4_measureOdd 112 = .ok (.invokevirtual 57, 3) := by decide +kernel
theorem dX4_measureOdd_115 : decode cX4_measureOdd 115 = .ok (.invokevirtual 67, 3) := by decide +kernel
theorem dX4_measureOdd_118 : decode cX4_measureOdd 118 = .ok (.aload_n 0, 1) := by decide +kernel
theorem dX4_measureOdd_119 : decode cX4_measureOdd 119 = .ok (.getfield 19, 3) := by decide +kernel
theorem dX4_measureOdd_122 : decode cX4_measureOdd 122 = .ok (.aload_n 0, 1) := by decide +kernel
theorem dX4_measureOdd_123 : decode cX4_measureOdd 123 = .ok (.getfield 22, 3) := by decide +kernel
theorem dX4_measureOdd_126 : decode cX4_measureOdd 126 = .ok (.invokevirtual 76, 3) := by decide +kernel
theorem dX4_measureOdd_129 : decode cX4_measureOdd 129 = .ok (.istore_n 1, 1) := by decide +kernel
theorem dX4_measureOdd_130 : decode cX4_measureOdd 130 = .ok (.iinc 2 1, 3) := by decide +kernel
theorem dX4_measureOdd_133 : decode cX4_measureOdd 133 = .ok (.goto (-69), 3) := by decide +kernel
theorem dX4_measureOdd_136 : decode cX4_measureOdd 136 = .ok (.return_, 1) := by decide +kernel
theorem dX5_init_0 : decode cX5_init 0 = .ok (.aload_n 0, 1) := by decide +kernel
theorem dX5_init_1 : decode cX5_init 1 = .ok (.invokespecial 3, 3) := by decide +kernel
theorem dX5_init_4 : decode cX5_init 4 = .ok (.aload_n 0, 1) := by decide +kernel
theorem dX5_init_5 : decode cX5_init 5 = .ok (.iconst 4, 1) := by decide +kernel
theorem dX5_init_6 : decode cX5_init 6 = .ok (.newarray .int, 2) := by decide +kernel
theorem dX5_init_8 : decode cX5_init 8 = .ok (.putfield 9, 3) := by decide +kernel
theorem dX5_init_11 : decode cX5_init 11 = .ok (.aload_n 0, 1) := by decide +kernel
theorem dX5_init_12 : decode cX5_init 12 = .ok (.iconst 4, 1) := by decide +kernel
theorem dX5_init_13 : decode cX5_init 13 = .ok (.newarray .int, 2) := by decide +kernel
theorem dX5_init_15 : decode cX5_init 15 = .ok (.putfield 15, 3) := by decide +kernel
theorem dX5_init_18 : decode cX5_init 18 = .ok (.aload_n 0, 1) := by decide +kernel
theorem dX5_init_19 : decode cX5_init 19 = .ok (.getfield 9, 3) := by decide +kernel
theorem dX5_init_22 : decode cX5_init 22 = .ok (.iconst 1, 1) := by decide +kernel
theorem dX5_init_23 : decode cX5_init 23 = .ok (.invokestatic 18, 3) := by decide +kernel
theorem dX5_init_26 : decode cX5_init 26 = .ok (.aload_n 0, 1) := by decide +kernel
theorem dX5_init_27 : decode cX5_init 27 = .ok (.getfield 15, 3) := by decide +kernel
theorem dX5_init_30 : decode cX5_init 30 = .ok (.iconst 1, 1) := by decide +kernel
theorem dX5_init_31 : decode cX5_init 31 = .ok (.invokestatic 18, 3) := by decide +kernel
theorem dX5_init_34 : decode cX5_init 34 = .ok (.return_, 1) := by decide +kernel
theorem dX5_lossAt_0 : decode cX5_lossAt 0 = .ok (.lconst 0, 1) := by decide +kernel
theorem dX5_lossAt_1 : decode cX5_lossAt 1 = .ok (.lstore 4, 2) := by decide +kernel
theorem dX5_lossAt_3 : decode cX5_lossAt 3 = .ok (.lconst 1, 1) := by decide +kernel
theorem dX5_lossAt_4 : decode cX5_lossAt 4 = .ok (.lstore 6, 2) := by decide +kernel
theorem dX5_lossAt_6 : decode cX5_lossAt 6 = .ok (.iconst 0, 1) := by decide +kernel
theorem dX5_lossAt_7 : decode cX5_lossAt 7 = .ok (.istore 8, 2) := by decide +kernel
theorem dX5_lossAt_9 : decode cX5_lossAt 9 = .ok (.iload 8, 2) := by decide +kernel
theorem dX5_lossAt_11 : decode cX5_lossAt 11 = .ok (.iconst 4, 1) := by decide +kernel
theorem dX5_lossAt_12 : decode cX5_lossAt 12 = .ok (.if_icmp .ge 66, 3) := by decide +kernel
theorem dX5_lossAt_15 : decode cX5_lossAt 15 = .ok (.iload_n 1, 1) := by decide +kernel
theorem dX5_lossAt_16 : decode cX5_lossAt 16 = .ok (.iconst (-1), 1) := by decide +kernel
theorem dX5_lossAt_17 : decode cX5_lossAt 17 = .ok (.if_icmp .eq 9, 3) := by decide +kernel
theorem dX5_lossAt_20 : decode cX5_lossAt 20 = .ok (.iload_n 1, 1) := by decide +kernel
theorem dX5_lossAt_21 : decode cX5_lossAt 21 = .ok (.iload 8, 2) := by decide +kernel
theorem dX5_lossAt_23 : decode cX5_lossAt 23 = .ok (.if_icmp .ne 49, 3) := by decide +kernel
theorem dX5_lossAt_26 : decode cX5_lossAt 26 = .ok (.lload 4, 2) := by decide +kernel
theorem dX5_lossAt_28 : decode cX5_lossAt 28 = .ok (.aload_n 0, 1) := by decide +kernel
theorem dX5_lossAt_29 : decode cX5_lossAt 29 = .ok (.getfield 9, 3) := by decide +kernel
theorem dX5_lossAt_32 : decode cX5_lossAt 32 = .ok (.iload 8, 2) := by decide +kernel
theorem dX5_lossAt_34 : decode cX5_lossAt 34 = .ok (.iaload, 1) := by decide +kernel
theorem dX5_lossAt_35 : decode cX5_lossAt 35 = .ok (.i2l, 1) := by decide +kernel
theorem dX5_lossAt_36 : decode cX5_lossAt 36 = .ok (.lmul, 1) := by decide +kernel
theorem dX5_lossAt_37 : decode cX5_lossAt 37 = .ok (.aload_n 2, 1) := by decide +kernel
theorem dX5_lossAt_38 : decode cX5_lossAt 38 = .ok (.iload 8, 2) := by decide +kernel
theorem dX5_lossAt_40 : decode cX5_lossAt 40 = .ok (.invokevirtual 24, 3) := by decide +kernel
theorem dX5_lossAt_43 : decode cX5_lossAt 43 = .ok (.i2l, 1) := by decide +kernel
theorem dX5_lossAt_44 : decode cX5_lossAt 44 = .ok (.aload_n 0, 1) := by decide +kernel
theorem dX5_lossAt_45 : decode cX5_lossAt 45 = .ok (.getfield 15, 3) := by decide +kernel
theorem dX5_lossAt_48 : decode cX5_lossAt 48 = .ok (.iload 8, 2) := by decide +kernel
theorem dX5_lossAt_50 : decode cX5_lossAt 50 = .ok (.iaload, 1) := by decide +kernel
theorem dX5_lossAt_51 : decode cX5_lossAt 51 = .ok (.i2l, 1) := by decide +kernel
theorem dX5_lossAt_52 : decode cX5_lossAt 52 = .ok (.lmul, 1) := by decide +kernel
theorem dX5_lossAt_53 : decode cX5_lossAt 53 = .ok (.lload 6, 2) := by decide +kernel
theorem dX5_lossAt_55 : decode cX5_lossAt 55 = .ok (.lmul, 1) := by decide +kernel
theorem dX5_lossAt_56 : decode cX5_lossAt 56 = .ok (.ladd, 1) := by decide +kernel
theorem dX5_lossAt_57 : decode cX5_lossAt 57 = .ok (.lstore 4, 2) := by decide +kernel
theorem dX5_lossAt_59 : decode cX5_lossAt 59 = .ok (.lload 6, 2) := by decide +kernel
theorem dX5_lossAt_61 : decode cX5_lossAt 61 = .ok (.aload_n 0, 1) := by decide +kernel
theorem dX5_lossAt_62 : decode cX5_lossAt 62 = .ok (.getfield 9, 3) := by decide +kernel
theorem dX5_lossAt_65 : decode cX5_lossAt 65 = .ok (.iload 8, 2) := by decide +kernel
theorem dX5_lossAt_67 : decode cX5_lossAt 67 = .ok (.iaload, 1) := by decide +kernel
theorem dX5_lossAt_68 : decode cX5_lossAt 68 = .ok (.i2l, 1) := by decide +kernel
theorem dX5_lossAt_69 : decode cX5_lossAt 69 = .ok (.lmul, 1) := by decide +kernel
theorem dX5_lossAt_70 : decode cX5_lossAt 70 = .ok (.lstore 6, 2) := by decide +kernel
theorem dX5_lossAt_72 : decode cX5_lossAt 72 = .ok (.iinc 8 1, 3) := by decide +kernel
theorem dX5_lossAt_75 : decode cX5_lossAt 75 = .ok (.goto (-66), 3) := by decide +kernel
theorem dX5_lossAt_78 : decode cX5_lossAt 78 = .ok (.aload_n 3, 1) := by decide +kernel
theorem dX5_lossAt_79 : decode cX5_lossAt 79 = .ok (.lload 4, 2) := by decide +kernel
theorem dX5_lossAt_81 : decode cX5_lossAt 81 = .ok (.lload 6, 2) := by decide +kernel
theorem dX5_lossAt_83 : decode cX5_lossAt 83 = .ok (.invokevirtual 30, 3) := by decide +kernel
theorem dX5_lossAt_86 : decode cX5_lossAt 86 = .ok (.return_, 1) := by decide +kernel
theorem dX5_mix_0 : decode cX5_mix 0 = .ok (.lload_n 1, 1) := by decide +kernel
theorem dX5_mix_1 : decode cX5_mix 1 = .ok (.lstore_n 3, 1) := by decide +kernel
theorem dX5_mix_2 : decode cX5_mix 2 = .ok (.iconst 0, 1) := by decide +kernel
theorem dX5_mix_3 : decode cX5_mix 3 = .ok (.istore 5, 2) := by decide +kernel
theorem dX5_mix_5 : decode cX5_mix 5 = .ok (.iload 5, 2) := by decide +kernel
theorem dX5_mix_7 : decode cX5_mix 7 = .ok (.iconst 4, 1) := by decide +kernel
theorem dX5_mix_8 : decode cX5_mix 8 = .ok (.if_icmp .ge 39, 3) := by decide +kernel
theorem dX5_mix_11 : decode cX5_mix 11 = .ok (.ldc2_w 36, 3) := by decide +kernel
theorem dX5_mix_14 : decode cX5_mix 14 = .ok (.lload_n 3, 1) := by decide +kernel
theorem dX5_mix_15 : decode cX5_mix 15 = .ok (.lmul, 1) := by decide +kernel
theorem dX5_mix_16 : decode cX5_mix 16 = .ok (.aload_n 0, 1) := by decide +kernel
theorem dX5_mix_17 : decode cX5_mix 17 = .ok (.getfield 9, 3) := by decide +kernel
theorem dX5_mix_20 : decode cX5_mix 20 = .ok (.iload 5, 2) := by decide +kernel
theorem dX5_mix_22 : decode cX5_mix 22 = .ok (.iaload, 1) := by decide +kernel
theorem dX5_mix_23 : decode cX5_mix 23 = .ok (.i2l, 1) := by decide +kernel
theorem dX5_mix_24 : decode cX5_mix 24 = .ok (.ladd, 1) := by decide +kernel
theorem dX5_mix_25 : decode cX5_mix 25 = .ok (.lstore_n 3, 1) := by decide +kernel
theorem dX5_mix_26 : decode cX5_mix 26 = .ok (.ldc2_w 36, 3) := by decide +kernel
theorem dX5_mix_29 : decode cX5_mix 29 = .ok (.lload_n 3, 1) := by decide +kernel
theorem dX5_mix_30 : decode cX5_mix 30 = .ok (.lmul, 1) := by decide +kernel
theorem dX5_mix_31 : decode cX5_mix 31 = .ok (.aload_n 0, 1) := by decide +kernel
theorem dX5_mix_32 : decode cX5_mix 32 = .ok (.getfield 15, 3) := by decide +kernel
theorem dX5_mix_35 : decode cX5_mix 35 = .ok (.iload 5, 2) := by decide +kernel
theorem dX5_mix_37 : decode cX5_mix 37 = .ok (.iaload, 1) := by decide +kernel
theorem dX5_mix_38 : decode cX5_mix 38 = .ok (.i2l, 1) := by decide +kernel
theorem dX5_mix_39 : decode cX5_mix 39 = .ok (.ladd, 1) := by decide +kernel
theorem dX5_mix_40 : decode cX5_mix 40 = .ok (.lstore_n 3, 1) := by decide +kernel
theorem dX5_mix_41 : decode cX5_mix 41 = .ok (.iinc 5 1, 3) := by decide +kernel
theorem dX5_mix_44 : decode cX5_mix 44 = .ok (.goto (-39), 3) := by decide +kernel
theorem dX5_mix_47 : decode cX5_mix 47 = .ok (.lload_n 3, 1) := by decide +kernel
theorem dX5_mix_48 : decode cX5_mix 48 = .ok (.lreturn, 1) := by decide +kernel
theorem dX6_init_0 : decode cX6_init 0 = .ok (.aload_n 0, 1) := by decide +kernel
theorem dX6_init_1 : decode cX6_init 1 = .ok (.invokespecial 3, 3) := by decide +kernel
theorem dX6_init_4 : decode cX6_init 4 = .ok (.aload_n 0, 1) := by decide +kernel
theorem dX6_init_5 : decode cX6_init 5 = .ok (.bipush 60, 2) := by decide +kernel
theorem dX6_init_7 : decode cX6_init 7 = .ok (.newarray .int, 2) := by decide +kernel
theorem dX6_init_9 : decode cX6_init 9 = .ok (.putfield 11, 3) := by decide +kernel
theorem dX6_init_12 : decode cX6_init 12 = .ok (.return_, 1) := by decide +kernel
theorem dX6_clear_0 : decode cX6_clear 0 = .ok (.aload_n 0, 1) := by decide +kernel
theorem dX6_clear_1 : decode cX6_clear 1 = .ok (.iconst 0, 1) := by decide +kernel
theorem dX6_clear_2 : decode cX6_clear 2 = .ok (.putfield 17, 3) := by decide +kernel
theorem dX6_clear_5 : decode cX6_clear 5 = .ok (.return_, 1) := by decide +kernel
theorem dX6_put_0 : decode cX6_put 0 = .ok (.iconst 0, 1) := by decide +kernel
theorem dX6_put_1 : decode cX6_put 1 = .ok (.istore_n 2, 1) := by decide +kernel
theorem dX6_put_2 : decode cX6_put 2 = .ok (.iload_n 2, 1) := by decide +kernel
theorem dX6_put_3 : decode cX6_put 3 = .ok (.aload_n 0, 1) := by decide +kernel
theorem dX6_put_4 : decode cX6_put 4 = .ok (.getfield 17, 3) := by decide +kernel
theorem dX6_put_7 : decode cX6_put 7 = .ok (.if_icmp .ge 19, 3) := by decide +kernel
theorem dX6_put_10 : decode cX6_put 10 = .ok (.aload_n 0, 1) := by decide +kernel
theorem dX6_put_11 : decode cX6_put 11 = .ok (.getfield 11, 3) := by decide +kernel
theorem dX6_put_14 : decode cX6_put 14 = .ok (.iload_n 2, 1) := by decide +kernel
theorem dX6_put_15 : decode cX6_put 15 = .ok (.iaload, 1) := by decide +kernel
theorem dX6_put_16 : decode cX6_put 16 = .ok (.iload_n 1, 1) := by decide +kernel
theorem dX6_put_17 : decode cX6_put 17 = .ok (.if_icmp .ge 9, 3) := by decide +kernel
theorem dX6_put_20 : decode cX6_put 20 = .ok (.iinc 2 1, 3) := by decide +kernel
theorem dX6_put_23 : decode cX6_put 23 = .ok (.goto (-21), 3) := by decide +kernel
theorem dX6_put_26 : decode cX6_put 26 = .ok (.aload_n 0, 1) := by decide +kernel
theorem dX6_put_27 : decode cX6_put 27 = .ok (.getfield 17, 3) := by decide +kernel
theorem dX6_put_30 : decode cX6_put 30 = .ok (.aload_n 0, 1) := by decide +kernel
theorem dX6_put_31 : decode cX6_put 31 = .ok (.getfield 11, 3) := by decide +kernel
theorem dX6_put_34 : decode cX6_put 34 = .ok (.arraylength, 1) := by decide +kernel
theorem dX6_put_35 : decode cX6_put 35 = .ok (.if_icmp .ge 21, 3) := by decide +kernel
theorem dX6_put_38 : decode cX6_put 38 = .ok (.iload_n 2, 1) := by decide +kernel
theorem dX6_put_39 : decode cX6_put 39 = .ok (.aload_n 0, 1) := by decide +kernel
theorem dX6_put_40 : decode cX6_put 40 = .ok (.getfield 17, 3) := by decide +kernel
theorem dX6_put_43 : decode cX6_put 43 = .ok (.if_icmp .ge 14, 3) := by decide +kernel
theorem dX6_put_46 : decode cX6_put 46 = .ok (.aload_n 0, 1) := by decide +kernel
theorem dX6_put_47 : decode cX6_put 47 = .ok (.getfield 11, 3) := by decide +kernel
theorem dX6_put_50 : decode cX6_put 50 = .ok (.iload_n 2, 1) := by decide +kernel
theorem dX6_put_51 : decode cX6_put 51 = .ok (.iaload, 1) := by decide +kernel
theorem dX6_put_52 : decode cX6_put 52 = .ok (.iload_n 1, 1) := by decide +kernel
theorem dX6_put_53 : decode cX6_put 53 = .ok (.if_icmp .ne 4, 3) := by decide +kernel
theorem dX6_put_56 : decode cX6_put 56 = .ok (.return_, 1) := by decide +kernel
theorem dX6_put_57 : decode cX6_put 57 = .ok (.aload_n 0, 1) := by decide +kernel
theorem dX6_put_58 : decode cX6_put 58 = .ok (.getfield 17, 3) := by decide +kernel
theorem dX6_put_61 : decode cX6_put 61 = .ok (.istore_n 3, 1) := by decide +kernel
theorem dX6_put_62 : decode cX6_put 62 = .ok (.iload_n 3, 1) := by decide +kernel
theorem dX6_put_63 : decode cX6_put 63 = .ok (.iload_n 2, 1) := by decide +kernel
theorem dX6_put_64 : decode cX6_put 64 = .ok (.if_icmp .le 23, 3) := by decide +kernel
theorem dX6_put_67 : decode cX6_put 67 = .ok (.aload_n 0, 1) := by decide +kernel
theorem dX6_put_68 : decode cX6_put 68 = .ok (.getfield 11, 3) := by decide +kernel
theorem dX6_put_71 : decode cX6_put 71 = .ok (.iload_n 3, 1) := by decide +kernel
theorem dX6_put_72 : decode cX6_put 72 = .ok (.aload_n 0, 1) := by decide +kernel
theorem dX6_put_73 : decode cX6_put 73 = .ok (.getfield 11, 3) := by decide +kernel
theorem dX6_put_76 : decode cX6_put 76 = .ok (.iload_n 3, 1) := by decide +kernel
theorem dX6_put_77 : decode cX6_put 77 = .ok (.iconst 1, 1) := by decide +kernel
theorem dX6_put_78 : decode cX6_put 78 = .ok (.isub, 1) := by decide +kernel
theorem dX6_put_79 : decode cX6_put 79 = .ok (.iaload, 1) := by decide +kernel
theorem dX6_put_80 : decode cX6_put 80 = .ok (.iastore, 1) := by decide +kernel
theorem dX6_put_81 : decode cX6_put 81 = .ok (.iinc 3 (-1), 3) := by decide +kernel
theorem dX6_put_84 : decode cX6_put 84 = .ok (.goto (-22), 3) := by decide +kernel
theorem dX6_put_87 : decode cX6_put 87 = .ok (.aload_n 0, 1) := by decide +kernel
theorem dX6_put_88 : decode cX6_put 88 = .ok (.getfield 11, 3) := by decide +kernel
theorem dX6_put_91 : decode cX6_put 91 = .ok (.iload_n 2, 1) := by decide +kernel
theorem dX6_put_92 : decode cX6_put 92 = .ok (.iload_n 1, 1) := by decide +kernel
theorem dX6_put_93 : decode cX6_put 93 = .ok (.iastore, 1) := by decide +kernel
theorem dX6_put_94 : decode cX6_put 94 = .ok (.aload_n 0, 1) := by decide +kernel
theorem dX6_put_95 : decode cX6_put 95 = .ok (.dup, 1) := by decide +kernel
theorem dX6_put_96 : decode cX6_put 96 = .ok (.getfield 17, 3) := by decide +kernel
theorem dX6_put_99 : decode cX6_put 99 = .ok (.iconst 1, 1) := by decide +kernel
theorem dX6_put_100 : decode cX6_put 100 = .ok (.iadd, 1) := by decide +kernel
theorem dX6_put_101 : decode cX6_put 101 = .ok (.putfield 17, 3) := by decide +kernel
theorem dX6_put_104 : decode cX6_put 104 = .ok (.return_, 1) := by decide +kernel
theorem dX6_commonStep_0 : decode cX6_commonStep 0 = .ok (.lconst 0, 1) := by decide +kernel
theorem dX6_commonStep_1 : decode cX6_commonStep 1 = .ok (.lstore_n 1, 1) := by decide +kernel
theorem dX6_commonStep_2 : decode cX6_commonStep 2 = .ok (.iconst 1, 1) := by decide +kernel
theorem dX6_commonStep_3 : decode cX6_commonStep 3 = .ok (.istore_n 3, 1) := by decide +kernel
theorem dX6_commonStep_4 : decode cX6_commonStep 4 = .ok (.iload_n 3, 1) := by decide +kernel
theorem dX6_commonStep_5 : decode cX6_commonStep 5 = .ok (.aload_n 0, 1) := by decide +kernel
theorem dX6_commonStep_6 : decode cX6_commonStep 6 = .ok (.getfield 17, 3) := by decide +kernel
theorem dX6_commonStep_9 : decode cX6_commonStep 9 = .ok (.if_icmp .ge 28, 3) := by decide +kernel
theorem dX6_commonStep_12 : decode cX6_commonStep 12 = .ok (.aload_n 0, 1) := by decide +kernel
theorem dX6_commonStep_13 : decode cX6_commonStep 13 = .ok (.getfield 11, 3) := by decide +kernel
theorem dX6_commonStep_16 : decode cX6_commonStep 16 = .ok (.iload_n 3, 1) := by decide +kernel
theorem dX6_commonStep_17 : decode cX6_commonStep 17 = .ok (.iaload, 1) := by decide +kernel
theorem dX6_commonStep_18 : decode cX6_commonStep 18 = .ok (.aload_n 0, 1) := by decide +kernel
theorem dX6_commonStep_19 : decode cX6_commonStep 19 = .ok (.getfield 11, 3) := by decide +kernel
theorem dX6_commonStep_22 : decode cX6_commonStep 22 = .ok (.iconst 0, 1) := by decide +kernel
theorem dX6_commonStep_23 : decode cX6_commonStep 23 = .ok (.iaload, 1) := by decide +kernel
theorem dX6_commonStep_24 : decode cX6_commonStep 24 = .ok (.isub, 1) := by decide +kernel
theorem dX6_commonStep_25 : decode cX6_commonStep 25 = .ok (.i2l, 1) := by decide +kernel
theorem dX6_commonStep_26 : decode cX6_commonStep 26 = .ok (.lload_n 1, 1) := by decide +kernel
theorem dX6_commonStep_27 : decode cX6_commonStep 27 = .ok (.invokestatic 21, 3) := by decide +kernel
theorem dX6_commonStep_30 : decode cX6_commonStep 30 = .ok (.lstore_n 1, 1) := by decide +kernel
theorem dX6_commonStep_31 : decode cX6_commonStep 31 = .ok (.iinc 3 1, 3) := by decide +kernel
theorem dX6_commonStep_34 : decode cX6_commonStep 34 = .ok (.goto (-30), 3) := by decide +kernel
theorem dX6_commonStep_37 : decode cX6_commonStep 37 = .ok (.lload_n 1, 1) := by decide +kernel
theorem dX6_commonStep_38 : decode cX6_commonStep 38 = .ok (.l2i, 1) := by decide +kernel
theorem dX6_commonStep_39 : decode cX6_commonStep 39 = .ok (.ireturn, 1) := by decide +kernel
theorem dX6_suit_0 : decode cX6_suit 0 = .ok (.iconst 0, 1) := by decide +kernel
theorem dX6_suit_1 : decode cX6_suit 1 = .ok (.istore_n 3, 1) := by decide +kernel
theorem dX6_suit_2 : decode cX6_suit 2 = .ok (.iload_n 3, 1) := by decide +kernel
theorem dX6_suit_3 : decode cX6_suit 3 = .ok (.aload_n 0, 1) := by decide +kernel
theorem dX6_suit_4 : decode cX6_suit 4 = .ok (.getfield 17, 3) := by decide +kernel
theorem dX6_suit_7 : decode cX6_suit 7 = .ok (.if_icmp .ge 38, 3) := by decide +kernel
theorem dX6_suit_10 : decode cX6_suit 10 = .ok (.iload_n 2, 1) := by decide +kernel
theorem dX6_suit_11 : decode cX6_suit 11 = .ok (.ifCond .le 26, 3) := by decide +kernel
theorem dX6_suit_14 : decode cX6_suit 14 = .ok (.aload_n 0, 1) := by decide +kernel
theorem dX6_suit_15 : decode cX6_suit 15 = .ok (.getfield 11, 3) := by decide +kernel
theorem dX6_suit_18 : decode cX6_suit 18 = .ok (.iload_n 3, 1) := by decide +kernel
theorem dX6_suit_19 : decode cX6_suit 19 = .ok (.iaload, 1) := by decide +kernel
theorem dX6_suit_20 : decode cX6_suit 20 = .ok (.iload_n 1, 1) := by decide +kernel
theorem dX6_suit_21 : decode cX6_suit 21 = .ok (.if_icmp .lt 16, 3) := by decide +kernel
theorem dX6_suit_24 : decode cX6_suit 24 = .ok (.aload_n 0, 1) := by decide +kernel
theorem dX6_suit_25 : decode cX6_suit 25 = .ok (.getfield 11, 3) := by decide +kernel
theorem dX6_suit_28 : decode cX6_suit 28 = .ok (.iload_n 3, 1) := by decide +kernel
theorem dX6_suit_29 : decode cX6_suit 29 = .ok (.iaload, 1) := by decide +kernel
theorem dX6_suit_30 : decode cX6_suit 30 = .ok (.iload_n 1, 1) := by decide +kernel
theorem dX6_suit_31 : decode cX6_suit 31 = .ok (.isub, 1) := by decide +kernel
theorem dX6_suit_32 : decode cX6_suit 32 = .ok (.iload_n 2, 1) := by decide +kernel
theorem dX6_suit_33 : decode cX6_suit 33 = .ok (.irem, 1) := by decide +kernel
theorem dX6_suit_34 : decode cX6_suit 34 = .ok (.ifCond .eq 5, 3) := by decide +kernel
theorem dX6_suit_37 : decode cX6_suit 37 = .ok (.iconst 0, 1) := by decide +kernel
theorem dX6_suit_38 : decode cX6_suit 38 = .ok (.ireturn, 1) := by decide +kernel
theorem dX6_suit_39 : decode cX6_suit 39 = .ok (.iinc 3 1, 3) := by decide +kernel
theorem dX6_suit_42 : decode cX6_suit 42 = .ok (.goto (-40), 3) := by decide +kernel
theorem dX6_suit_45 : decode cX6_suit 45 = .ok (.iconst 1, 1) := by decide +kernel
theorem dX6_suit_46 : decode cX6_suit 46 = .ok (.ireturn, 1) := by decide +kernel
theorem dX6_topPlace_0 : decode cX6_topPlace 0 = .ok (.aload_n 0, 1) := by decide +kernel
theorem dX6_topPlace_1 : decode cX6_topPlace 1 = .ok (.getfield 17, 3) := by decide +kernel
theorem dX6_topPlace_4 : decode cX6_topPlace 4 = .ok (.ifCond .ne 7, 3) := by decide +kernel
theorem dX6_topPlace_7 : decode cX6_topPlace 7 = .ok (.iconst (-1), 1) := by decide +kernel
theorem dX6_topPlace_8 : decode cX6_topPlace 8 = .ok (.goto 19, 3) := by decide +kernel
theorem dX6_topPlace_11 : decode cX6_topPlace 11 = .ok (.aload_n 0, 1) := by decide +kernel
theorem dX6_topPlace_12 : decode cX6_topPlace 12 = .ok (.getfield 11, 3) := by decide +kernel
theorem dX6_topPlace_15 : decode cX6_topPlace 15 = .ok (.aload_n 0, 1) := by decide +kernel
theorem dX6_topPlace_16 : decode cX6_topPlace 16 = .ok (.getfield 17, 3) := by decide +kernel
theorem dX6_topPlace_19 : decode cX6_topPlace 19 = .ok (.iconst 1, 1) := by decide +kernel
theorem dX6_topPlace_20 : decode cX6_topPlace 20 = .ok (.isub, 1) := by decide +kernel
theorem dX6_topPlace_21 : decode cX6_topPlace 21 = .ok (.iaload, 1) := by decide +kernel
theorem dX6_topPlace_22 : decode cX6_topPlace 22 = .ok (.iload_n 1, 1) := by decide +kernel
theorem dX6_topPlace_23 : decode cX6_topPlace 23 = .ok (.iload_n 2, 1) := by decide +kernel
theorem dX6_topPlace_24 : decode cX6_topPlace 24 = .ok (.invokestatic 25, 3) := by decide +kernel
theorem dX6_topPlace_27 : decode cX6_topPlace 27 = .ok (.ireturn, 1) := by decide +kernel
theorem dX6_littleMore_0 : decode cX6_littleMore 0 = .ok (.aload_n 0, 1) := by decide +kernel
theorem dX6_littleMore_1 : decode cX6_littleMore 1 = .ok (.iload_n 1, 1) := by decide +kernel
theorem dX6_littleMore_2 : decode cX6_littleMore 2 = .ok (.iload_n 2, 1) := by decide +kernel
theorem dX6_littleMore_3 : decode cX6_littleMore 3 = .ok (.invokevirtual 29, 3) := by decide +kernel
theorem dX6_littleMore_6 : decode cX6_littleMore 6 = .ok (.iconst 1, 1) := by decide +kernel
theorem dX6_littleMore_7 : decode cX6_littleMore 7 = .ok (.iadd, 1) := by decide +kernel
theorem dX6_littleMore_8 : decode cX6_littleMore 8 = .ok (.istore_n 3, 1) := by decide +kernel
theorem dX6_littleMore_9 : decode cX6_littleMore 9 = .ok (.aload_n 0, 1) := by decide +kernel
theorem dX6_littleMore_10 : decode cX6_littleMore 10 = .ok (.getfield 17, 3) := by decide +kernel
theorem dX6_littleMore_13 : decode cX6_littleMore 13 = .ok (.ifCond .ne 7, 3) := by decide +kernel
theorem dX6_littleMore_16 : decode cX6_littleMore 16 = .ok (.iconst 0, 1) := by decide +kernel
theorem dX6_littleMore_17 : decode cX6_littleMore 17 = .ok (.goto 13, 3) := by decide +kernel
theorem dX6_littleMore_20 : decode cX6_littleMore 20 = .ok (.iload_n 3, 1) := by decide +kernel
theorem dX6_littleMore_21 : decode cX6_littleMore 21 = .ok (.iload_n 3, 1) := by decide +kernel
theorem dX6_littleMore_22 : decode cX6_littleMore 22 = .ok (.aload_n 0, 1) := by decide +kernel
theorem dX6_littleMore_23 : decode cX6_littleMore 23 = .ok (.getfield 17, 3) := by decide +kernel
theorem dX6_littleMore_26 : decode cX6_littleMore 26 = .ok (.idiv, 1) := by decide +kernel
theorem dX6_littleMore_27 : decode cX6_littleMore 27 = .ok (.iadd, 1) := by decide +kernel
theorem dX6_littleMore_28 : decode cX6_littleMore 28 = .ok (.iconst 1, 1) := by decide +kernel
theorem dX6_littleMore_29 : decode cX6_littleMore 29 = .ok (.isub, 1) := by decide +kernel
theorem dX6_littleMore_30 : decode cX6_littleMore 30 = .ok (.ireturn, 1) := by decide +kernel
theorem dX7_init_0 : decode cX7_init 0 = .ok (.aload_n 0, 1) := by decide +kernel
theorem dX7_init_1 : decode cX7_init 1 = .ok (.invokespecial 3, 3) := by decide +kernel
theorem dX7_init_4 : decode cX7_init 4 = .ok (.aload_n 0, 1) := by decide +kernel
theorem dX7_init_5 : decode cX7_init 5 = .ok (.new 9, 3) := by decide +kernel
theorem dX7_init_8 : decode cX7_init 8 = .ok (.dup, 1) := by decide +kernel
theorem dX7_init_9 : decode cX7_init 9 = .ok (.invokespecial 11, 3) := by decide +kernel
theorem dX7_init_12 : decode cX7_init 12 = .ok (.putfield 12, 3) := by decide +kernel
theorem dX7_init_15 : decode cX7_init 15 = .ok (.aload_n 0, 1) := by decide +kernel
theorem dX7_init_16 : decode cX7_init 16 = .ok (.new 9, 3) := by decide +kernel
theorem dX7_init_19 : decode cX7_init 19 = .ok (.dup, 1) := by decide +kernel
theorem dX7_init_20 : decode cX7_init 20 = .ok (.invokespecial 11, 3) := by decide +kernel
theorem dX7_init_23 : decode cX7_init 23 = .ok (.putfield 18, 3) := by decide +kernel
theorem dX7_init_26 : decode cX7_init 26 = .ok (.return_, 1) := by decide +kernel
theorem dX7_share_0 : decode cX7_share 0 = .ok (.iconst 1, 1) := by decide +kernel
theorem dX7_share_1 : decode cX7_share 1 = .ok (.iload_n 2, 1) := by decide +kernel
theorem dX7_share_2 : decode cX7_share 2 = .ok (.invokestatic 21, 3) := by decide +kernel
theorem dX7_share_5 : decode cX7_share 5 = .ok (.istore 5, 2) := by decide +kernel
theorem dX7_share_7 : decode cX7_share 7 = .ok (.iload_n 3, 1) := by decide +kernel
theorem dX7_share_8 : decode cX7_share 8 = .ok (.iload 5, 2) := by decide +kernel
theorem dX7_share_10 : decode cX7_share 10 = .ok (.if_icmp .lt 9, 3) := by decide +kernel
theorem dX7_share_13 : decode cX7_share 13 = .ok (.iload_n 3, 1) := by decide +kernel
theorem dX7_share_14 : decode cX7_share 14 = .ok (.bipush 20, 2) := by decide +kernel
theorem dX7_share_16 : decode cX7_share 16 = .ok (.if_icmp .le 11, 3) := by decide +kernel
theorem dX7_share_19 : decode cX7_share 19 = .ok (.aload 4, 2) := by decide +kernel
theorem dX7_share_21 : decode cX7_share 21 = .ok (.lconst 0, 1) := by decide +kernel
theorem dX7_share_22 : decode cX7_share 22 = .ok (.lconst 1, 1) := by decide +kernel
theorem dX7_share_23 : decode cX7_share 23 = .ok (.invokevirtual 27, 3) := by decide +kernel
theorem dX7_share_26 : decode cX7_share 26 = .ok (.return_, 1) := by decide +kernel
theorem dX7_share_27 : decode cX7_share 27 = .ok (.aload_n 0, 1) := by decide +kernel
theorem dX7_share_28 : decode cX7_share 28 = .ok (.getfield 18, 3) := by decide +kernel
theorem dX7_share_31 : decode cX7_share 31 = .ok (.lconst 0, 1) := by decide +kernel
theorem dX7_share_32 : decode cX7_share 32 = .ok (.invokevirtual 33, 3) := by decide +kernel
theorem dX7_share_35 : decode cX7_share 35 = .ok (.iload 5, 2) := by decide +kernel
theorem dX7_share_37 : decode cX7_share 37 = .ok (.istore 6, 2) := by decide +kernel
theorem dX7_share_39 : decode cX7_share 39 = .ok (.iload 6, 2) := by decide +kernel
theorem dX7_share_41 : decode cX7_share 41 = .ok (.bipush 20, 2) := by decide +kernel
theorem dX7_share_43 : decode cX7_share 43 = .ok (.if_icmp .gt 28, 3) := by decide +kernel
theorem dX7_share_46 : decode cX7_share 46 = .ok (.aload_n 0, 1) := by decide +kernel
theorem dX7_share_47 : decode cX7_share 47 = .ok (.iload_n 1, 1) := by decide +kernel
theorem dX7_share_48 : decode cX7_share 48 = .ok (.iload_n 2, 1) := by decide +kernel
theorem dX7_share_49 : decode cX7_share 49 = .ok (.iload 6, 2) := by decide +kernel
theorem dX7_share_51 : decode cX7_share 51 = .ok (.invokevirtual 36, 3) := by decide +kernel
theorem dX7_share_54 : decode cX7_share 54 = .ok (.aload_n 0, 1) := by decide +kernel
theorem dX7_share_55 : decode cX7_share 55 = .ok (.getfield 18, 3) := by decide +kernel
theorem dX7_share_58 : decode cX7_share 58 = .ok (.aload_n 0, 1) := by decide +kernel
theorem dX7_share_59 : decode cX7_share 59 = .ok (.getfield 12, 3) := by decide +kernel
theorem dX7_share_62 : decode cX7_share 62 = .ok (.invokevirtual 40, 3) := by decide +kernel
theorem dX7_share_65 : decode cX7_share 65 = .ok (.iinc 6 1, 3) := by decide +kernel
theorem dX7_share_68 : decode cX7_share 68 = .ok (.goto (-29), 3) := by decide +kernel
theorem dX7_share_71 : decode cX7_share 71 = .ok (.aload 4, 2) := by decide +kernel
theorem dX7_share_73 : decode cX7_share 73 = .ok (.aload_n 0, 1) := by decide +kernel
theorem dX7_share_74 : decode cX7_share 74 = .ok (.getfield 18, 3) := by decide +kernel
theorem dX7_share_77 : decode cX7_share 77 = .ok (.invokevirtual 44, 3) := by decide +kernel
theorem dX7_share_80 : decode cX7_share 80 = .ok (.iconst 0, 1) := by decide +kernel
theorem dX7_share_81 : decode cX7_share 81 = .ok (.istore 6, 2) := by decide +kernel
theorem dX7_share_83 : decode cX7_share 83 = .ok (.iload 6, 2) := by decide +kernel
theorem dX7_share_85 : decode cX7_share 85 = .ok (.iload_n 2, 1) := by decide +kernel
theorem dX7_share_86 : decode cX7_share 86 = .ok (.if_icmp .ge 18, 3) := by decide +kernel
theorem dX7_share_89 : decode cX7_share 89 = .ok (.aload 4, 2) := by decide +kernel
theorem dX7_share_91 : decode cX7_share 91 = .ok (.iload_n 3, 1) := by decide +kernel
theorem dX7_share_92 : decode cX7_share 92 = .ok (.iload 6, 2) := by decide +kernel
theorem dX7_share_94 : decode cX7_share 94 = .ok (.isub, 1) := by decide +kernel
theorem dX7_share_95 : decode cX7_share 95 = .ok (.invokevirtual 47, 3) := by decide +kernel
theorem dX7_share_98 : decode cX7_share 98 = .ok (.iinc 6 1, 3) := by decide +kernel
theorem dX7_share_101 : decode cX7_share 101 = .ok (.goto (-18), 3) := by decide +kernel
theorem dX7_share_104 : decode cX7_share 104 = .ok (.iconst 0, 1) := by decide +kernel
theorem dX7_share_105 : decode cX7_share 105 = .ok (.istore 6, 2) := by decide +kernel
theorem dX7_share_107 : decode cX7_share 107 = .ok (.iload 6, 2) := by decide +kernel
theorem dX7_share_109 : decode cX7_share 109 = .ok (.iload_n 1, 1) := by decide +kernel
theorem dX7_share_110 : decode cX7_share 110 = .ok (.if_icmp .ge 18, 3) := by decide +kernel
theorem dX7_share_113 : decode cX7_share 113 = .ok (.aload 4, 2) := by decide +kernel
theorem dX7_share_115 : decode cX7_share 115 = .ok (.ldc 51, 2) := by decide +kernel
theorem dX7_share_117 : decode cX7_share 117 = .ok (.iload_n 3, 1) := by decide +kernel
theorem dX7_share_118 : decode cX7_share 118 = .ok (.idiv, 1) := by decide +kernel
theorem dX7_share_119 : decode cX7_share 119 = .ok (.invokevirtual 47, 3) := by decide +kernel
theorem dX7_share_122 : decode cX7_share 122 = .ok (.iinc 6 1, 3) := by decide +kernel
theorem dX7_share_125 : decode cX7_share 125 = .ok (.goto (-18), 3) := by decide +kernel
theorem dX7_share_128 : decode cX7_share 128 = .ok (.return_, 1) := by decide +kernel
theorem dX7_weigh_0 : decode cX7_weigh 0 = .ok (.aload_n 0, 1) := by decide +kernel
theorem dX7_weigh_1 : decode cX7_weigh 1 = .ok (.getfield 12, 3) := by decide +kernel
theorem dX7_weigh_4 : decode cX7_weigh 4 = .ok (.lconst 1, 1) := by decide +kernel
theorem dX7_weigh_5 : decode cX7_weigh 5 = .ok (.invokevirtual 33, 3) := by decide +kernel
theorem dX7_weigh_8 : decode cX7_weigh 8 = .ok (.iconst 0, 1) := by decide +kernel
theorem dX7_weigh_9 : decode cX7_weigh 9 = .ok (.istore 4, 2) := by decide +kernel
theorem dX7_weigh_11 : decode cX7_weigh 11 = .ok (.iload 4, 2) := by decide +kernel
theorem dX7_weigh_13 : decode cX7_weigh 13 = .ok (.iload_n 2, 1) := by decide +kernel
theorem dX7_weigh_14 : decode cX7_weigh 14 = .ok (.if_icmp .ge 20, 3) := by decide +kernel
theorem dX7_weigh_17 : decode cX7_weigh 17 = .ok (.aload_n 0, 1) := by decide +kernel
theorem dX7_weigh_18 : decode cX7_weigh 18 = .ok (.getfield 12, 3) := by decide +kernel
theorem dX7_weigh_21 : decode cX7_weigh 21 = .ok (.iload_n 3, 1) := by decide +kernel
theorem dX7_weigh_22 : decode cX7_weigh 22 = .ok (.iload 4, 2) := by decide +kernel
theorem dX7_weigh_24 : decode cX7_weigh 24 = .ok (.isub, 1) := by decide +kernel
theorem dX7_weigh_25 : decode cX7_weigh 25 = .ok (.invokevirtual 52, 3) := by decide +kernel
theorem dX7_weigh_28 : decode cX7_weigh 28 = .ok (.iinc 4 1, 3) := by decide +kernel
theorem dX7_weigh_31 : decode cX7_weigh 31 = .ok (.goto (-20), 3) := by decide +kernel
theorem dX7_weigh_34 : decode cX7_weigh 34 = .ok (.iconst 0, 1) := by decide +kernel
theorem dX7_weigh_35 : decode cX7_weigh 35 = .ok (.istore 4, 2) := by decide +kernel
theorem dX7_weigh_37 : decode cX7_weigh 37 = .ok (.iload 4, 2) := by decide +kernel
theorem dX7_weigh_39 : decode cX7_weigh 39 = .ok (.iload_n 1, 1) := by decide +kernel
theorem dX7_weigh_40 : decode cX7_weigh 40 = .ok (.if_icmp .ge 24, 3) := by decide +kernel
theorem dX7_weigh_43 : decode cX7_weigh 43 = .ok (.iload_n 3, 1) := by decide +kernel
theorem dX7_weigh_44 : decode cX7_weigh 44 = .ok (.ifCond .le 20, 3) := by decide +kernel
theorem dX7_weigh_47 : decode cX7_weigh 47 = .ok (.aload_n 0, 1) := by decide +kernel
theorem dX7_weigh_48 : decode cX7_weigh 48 = .ok (.getfield 12, 3) := by decide +kernel
theorem dX7_weigh_51 : decode cX7_weigh 51 = .ok (.ldc 51, 2) := by decide +kernel
theorem dX7_weigh_53 : decode cX7_weigh 53 = .ok (.iload_n 3, 1) := by decide +kernel
theorem dX7_weigh_54 : decode cX7_weigh 54 = .ok (.idiv, 1) := by decide +kernel
theorem dX7_weigh_55 : decode cX7_weigh 55 = .ok (.invokevirtual 52, 3) := by decide +kernel
theorem dX7_weigh_58 : decode cX7_weigh 58 = .ok (.iinc 4 1, 3) := by decide +kernel
theorem dX7_weigh_61 : decode cX7_weigh 61 = .ok (.goto (-24), 3) := by decide +kernel
theorem dX7_weigh_64 : decode cX7_weigh 64 = .ok (.return_, 1) := by decide +kernel
theorem dX8_init_0 : decode cX8_init 0 = .ok (.aload_n 0, 1) := by decide +kernel
theorem dX8_init_1 : decode cX8_init 1 = .ok (.invokespecial 3, 3) := by decide +kernel
theorem dX8_init_4 : decode cX8_init 4 = .ok (.aload_n 0, 1) := by decide +kernel
theorem dX8_init_5 : decode cX8_init 5 = .ok (.bipush 64, 2) := by decide +kernel
theorem dX8_init_7 : decode cX8_init 7 = .ok (.newarray .int, 2) := by decide +kernel
theorem dX8_init_9 : decode cX8_init 9 = .ok (.putfield 9, 3) := by decide +kernel
theorem dX8_init_12 : decode cX8_init 12 = .ok (.return_, 1) := by decide +kernel
theorem dX8_at_0 : decode cX8_at 0 = .ok (.iload_n 1, 1) := by decide +kernel
theorem dX8_at_1 : decode cX8_at 1 = .ok (.ifCond .lt 20, 3) := by decide +kernel
theorem dX8_at_4 : decode cX8_at 4 = .ok (.iload_n 1, 1) := by decide +kernel
theorem dX8_at_5 : decode cX8_at 5 = .ok (.aload_n 0, 1) := by decide +kernel
theorem dX8_at_6 : decode cX8_at 6 = .ok (.getfield 13, 3) := by decide +kernel
theorem dX8_at_9 : decode cX8_at 9 = .ok (.if_icmp .ge 12, 3) := by decide +kernel
theorem dX8_at_12 : decode cX8_at 12 = .ok (.aload_n 0, 1) := by decide +kernel
theorem dX8_at_13 : decode cX8_at 13 = .ok (.getfield 9, 3) := by decide +kernel
theorem dX8_at_16 : decode cX8_at 16 = .ok (.iload_n 1, 1) := by decide +kernel
theorem dX8_at_17 : decode cX8_at 17 = .ok (.iaload, 1) := by decide +kernel
theorem dX8_at_18 : decode cX8_at 18 = .ok (.goto 4, 3) := by decide +kernel
theorem dX8_at_21 : decode cX8_at 21 = .ok (.iconst 0, 1) := by decide +kernel
theorem dX8_at_22 : decode cX8_at 22 = .ok (.ireturn, 1) := by decide +kernel
theorem dX8_become_0 : decode cX8_become 0 = .ok (.aload_n 0, 1) := by decide +kernel
theorem dX8_become_1 : decode cX8_become 1 = .ok (.iconst 0, 1) := by decide +kernel
theorem dX8_become_2 : decode cX8_become 2 = .ok (.putfield 13, 3) := by decide +kernel
theorem dX8_become_5 : decode cX8_become 5 = .ok (.lload_n 1, 1) := by decide +kernel
theorem dX8_become_6 : decode cX8_become 6 = .ok (.lstore_n 3, 1) := by decide +kernel
theorem dX8_become_7 : decode cX8_become 7 = .ok (.iconst 0, 1) := by decide +kernel
theorem dX8_become_8 : decode cX8_become 8 = .ok (.istore 5, 2) := by decide +kernel
theorem dX8_become_10 : decode cX8_become 10 = .ok (.iload 5, 2) := by decide +kernel
theorem dX8_become_12 : decode cX8_become 12 = .ok (.iconst 3, 1) := by decide +kernel
theorem dX8_become_13 : decode cX8_become 13 = .ok (.if_icmp .ge 24, 3) := by decide +kernel
theorem dX8_become_16 : decode cX8_become 16 = .ok (.aload_n 0, 1) := by decide +kernel
theorem dX8_become_17 : decode cX8_become 17 = .ok (.lload_n 3, 1) := by decide +kernel
theorem dX8_become_18 : decode cX8_become 18 = .ok (.ldc2_w 17, 3) := by decide +kernel
theorem dX8_become_21 : decode cX8_become 21 = .ok (.land, 1) := by decide +kernel
theorem dX8_become_22 : decode cX8_become 22 = .ok (.l2i, 1) := by decide +kernel
theorem dX8_become_23 : decode cX8_become 23 = .ok (.invokevirtual 19, 3) := by decide +kernel
theorem dX8_become_26 : decode cX8_become 26 = .ok (.lload_n 3, 1) := by decide +kernel
theorem dX8_become_27 : decode cX8_become 27 = .ok (.bipush 30, 2) := by decide +kernel
theorem dX8_become_29 : decode cX8_become 29 = .ok (.lushr, 1) := by decide +kernel
theorem dX8_become_30 : decode cX8_become 30 = .ok (.lstore_n 3, 1) := by decide +kernel
theorem dX8_become_31 : decode cX8_become 31 = .ok (.iinc 5 1, 3) := by decide +kernel
theorem dX8_become_34 : decode cX8_become 34 = .ok (.goto (-24), 3) := by decide +kernel
theorem dX8_become_37 : decode cX8_become 37 = .ok (.aload_n 0, 1) := by decide +kernel
theorem dX8_become_38 : decode cX8_become 38 = .ok (.invokevirtual 23, 3) := by decide +kernel
theorem dX8_become_41 : decode cX8_become 41 = .ok (.return_, 1) := by decide +kernel
theorem dX8_copy_0 : decode cX8_copy 0 = .ok (.aload_n 1, 1) := by decide +kernel
theorem dX8_copy_1 : decode cX8_copy 1 = .ok (.getfield 9, 3) := by decide +kernel
theorem dX8_copy_4 : decode cX8_copy 4 = .ok (.iconst 0, 1) := by decide +kernel
theorem dX8_copy_5 : decode cX8_copy 5 = .ok (.aload_n 0, 1) := by decide +kernel
theorem dX8_copy_6 : decode cX8_copy 6 = .ok (.getfield 9, 3) := by decide +kernel
theorem dX8_copy_9 : decode cX8_copy 9 = .ok (.iconst 0, 1) := by decide +kernel
theorem dX8_copy_10 : decode cX8_copy 10 = .ok (.aload_n 1, 1) := by decide +kernel
theorem dX8_copy_11 : decode cX8_copy 11 = .ok (.getfield 13, 3) := by decide +kernel
theorem dX8_copy_14 : decode cX8_copy 14 = .ok (.invokestatic 26, 3) := by decide +kernel
theorem dX8_copy_17 : decode cX8_copy 17 = .ok (.aload_n 0, 1) := by decide +kernel
theorem dX8_copy_18 : decode cX8_copy 18 = .ok (.aload_n 1, 1) := by decide +kernel
theorem dX8_copy_19 : decode cX8_copy 19 = .ok (.getfield 13, 3) := by decide +kernel
theorem dX8_copy_22 : decode cX8_copy 22 = .ok (.putfield 13, 3) := by decide +kernel
theorem dX8_copy_25 : decode cX8_copy 25 = .ok (.return_, 1) := by decide +kernel
theorem dX8_add_0 : decode cX8_add 0 = .ok (.aload_n 0, 1) := by decide +kernel
theorem dX8_add_1 : decode cX8_add 1 = .ok (.getfield 13, 3) := by decide +kernel
theorem dX8_add_4 : decode cX8_add 4 = .ok (.aload_n 1, 1) := by decide +kernel
theorem dX8_add_5 : decode cX8_add 5 = .ok (.getfield 13, 3) := by decide +kernel
theorem dX8_add_8 : decode cX8_add 8 = .ok (.invokestatic 32, 3) := by decide +kernel
theorem dX8_add_11 : decode cX8_add 11 = .ok (.istore_n 2, 1) := by decide +kernel
theorem dX8_add_12 : decode cX8_add 12 = .ok (.iconst 0, 1) := by decide +kernel
theorem dX8_add_13 : decode cX8_add 13 = .ok (.istore_n 3, 1) := by decide +kernel
theorem dX8_add_14 : decode cX8_add 14 = .ok (.iconst 0, 1) := by decide +kernel
theorem dX8_add_15 : decode cX8_add 15 = .ok (.istore 4, 2) := by decide +kernel
theorem dX8_add_17 : decode cX8_add 17 = .ok (.iload 4, 2) := by decide +kernel
theorem dX8_add_19 : decode cX8_add 19 = .ok (.iload_n 2, 1) := by decide +kernel
theorem dX8_add_20 : decode cX8_add 20 = .ok (.if_icmp .ge 44, 3) := by decide +kernel
theorem dX8_add_23 : decode cX8_add 23 = .ok (.aload_n 0, 1) := by decide +kernel
theorem dX8_add_24 : decode cX8_add 24 = .ok (.iload 4, 2) := by decide +kernel
theorem dX8_add_26 : decode cX8_add 26 = .ok (.invokevirtual 38, 3) := by decide +kernel
theorem dX8_add_29 : decode cX8_add 29 = .ok (.aload_n 1, 1) := by decide +kernel
theorem dX8_add_30 : decode cX8_add 30 = .ok (.iload 4, 2) := by decide +kernel
theorem dX8_add_32 : decode cX8_add 32 = .ok (.invokevirtual 38, 3) := by decide +kernel
theorem dX8_add_35 : decode cX8_add 35 = .ok (.iadd, 1) := by decide +kernel
theorem dX8_add_36 : decode cX8_add 36 = .ok (.iload_n 3, 1) := by decide +kernel
theorem dX8_add_37 : decode cX8_add 37 = .ok (.iadd, 1) := by decide +kernel
theorem dX8_add_38 : decode cX8_add 38 = .ok (.istore 5, 2) := by decide +kernel
theorem dX8_add_40 : decode cX8_add 40 = .ok (.aload_n 0, 1) := by decide +kernel
theorem dX8_add_41 : decode cX8_add 41 = .ok (.getfield 9, 3) := by decide +kernel
theorem dX8_add_44 : decode cX8_add 44 = .ok (.iload 4, 2) := by decide +kernel
theorem dX8_add_46 : decode cX8_add 46 = .ok (.iload 5, 2) := by decide +kernel
theorem dX8_add_48 : decode cX8_add 48 = .ok (.ldc 42, 2) := by decide +kernel
theorem dX8_add_50 : decode cX8_add 50 = .ok (.iand, 1) := by decide +kernel
theorem dX8_add_51 : decode cX8_add 51 = .ok (.iastore, 1) := by decide +kernel
theorem dX8_add_52 : decode cX8_add 52 = .ok (.iload 5, 2) := by decide +kernel
theorem dX8_add_54 : decode cX8_add 54 = .ok (.bipush 30, 2) := by decide +kernel
theorem dX8_add_56 : decode cX8_add 56 = .ok (.iushr, 1) := by decide +kernel
theorem dX8_add_57 : decode cX8_add 57 = .ok (.istore_n 3, 1) := by decide +kernel
theorem dX8_add_58 : decode cX8_add 58 = .ok (.iinc 4 1, 3) := by decide +kernel
theorem dX8_add_61 : decode cX8_add 61 = .ok (.goto (-44), 3) := by decide +kernel
theorem dX8_add_64 : decode cX8_add 64 = .ok (.aload_n 0, 1) := by decide +kernel
theorem dX8_add_65 : decode cX8_add 65 = .ok (.iload_n 2, 1) := by decide +kernel
theorem dX8_add_66 : decode cX8_add 66 = .ok (.putfield 13, 3) := by decide +kernel
theorem dX8_add_69 : decode cX8_add 69 = .ok (.aload_n 0, 1) := by decide +kernel
theorem dX8_add_70 : decode cX8_add 70 = .ok (.iload_n 3, 1) := by decide +kernel
theorem dX8_add_71 : decode cX8_add 71 = .ok (.invokevirtual 19, 3) := by decide +kernel
theorem dX8_add_74 : decode cX8_add 74 = .ok (.aload_n 0, 1) := by decide +kernel
theorem dX8_add_75 : decode cX8_add 75 = .ok (.invokevirtual 23, 3) := by decide +kernel
theorem dX8_add_78 : decode cX8_add 78 = .ok (.return_, 1) := by decide +kernel
theorem dX8_subtract_0 : decode cX8_subtract 0 = .ok (.iconst 0, 1) := by decide +kernel
theorem dX8_subtract_1 : decode cX8_subtract 1 = .ok (.istore_n 2, 1) := by decide +kernel
theorem dX8_subtract_2 : decode cX8_subtract 2 = .ok (.iconst 0, 1) := by decide +kernel
theorem dX8_subtract_3 : decode cX8_subtract 3 = .ok (.istore_n 3, 1) := by decide +kernel
theorem dX8_subtract_4 : decode cX8_subtract 4 = .ok (.iload_n 3, 1) := by decide +kernel
theorem dX8_subtract_5 : decode cX8_subtract 5 = .ok (.aload_n 0, 1) := by decide +kernel
theorem dX8_subtract_6 : decode cX8_subtract 6 = .ok (.getfield 13, 3) := by decide +kernel
theorem dX8_subtract_9 : decode cX8_subtract 9 = .ok (.if_icmp .ge 42, 3) := by decide +kernel
theorem dX8_subtract_12 : decode cX8_subtract 12 = .ok (.aload_n 0, 1) := by decide +kernel
theorem dX8_subtract_13 : decode cX8_subtract 13 = .ok (.getfield 9, 3) := by decide +kernel
theorem dX8_subtract_16 : decode cX8_subtract 16 = .ok (.iload_n 3, 1) := by decide +kernel
theorem dX8_subtract_17 : decode cX8_subtract 17 = .ok (.iaload, 1) := by decide +kernel
theorem dX8_subtract_18 : decode cX8_subtract 18 = .ok (.aload_n 1, 1) := by decide +kernel
theorem dX8_subtract_19 : decode cX8_subtract 19 = .ok (.iload_n 3, 1) := by decide +kernel
theorem dX8_subtract_20 : decode cX8_subtract 20 = .ok (.invokevirtual 38, 3) := by decide +kernel
theorem dX8_subtract_23 : decode cX8_subtract 23 = .ok (.isub, 1) := by decide +kernel
theorem dX8_subtract_24 : decode cX8_subtract 24 = .ok (.iload_n 2, 1) := by decide +kernel
theorem dX8_subtract_25 : decode cX8_subtract 25 = .ok (.isub, 1) := by decide +kernel
theorem dX8_subtract_26 : decode cX8_subtract 26 = .ok (.istore 4, 2) := by decide +kernel
theorem dX8_subtract_28 : decode cX8_subtract 28 = .ok (.aload_n 0, 1) := by decide +kernel
theorem dX8_subtract_29 : decode cX8_subtract 29 = .ok (.getfield 9, 3) := by decide +kernel
theorem dX8_subtract_32 : decode cX8_subtract 32 = .ok (.iload_n 3, 1) := by decide +kernel
theorem dX8_subtract_33 : decode cX8_subtract 33 = .ok (.iload 4, 2) := by decide +kernel
theorem dX8_subtract_35 : decode cX8_subtract 35 = .ok (.ldc 42, 2) := by decide +kernel
theorem dX8_subtract_37 : decode cX8_subtract 37 = .ok (.iand, 1) := by decide +kernel
theorem dX8_subtract_38 : decode cX8_subtract 38 = .ok (.iastore, 1) := by decide +kernel
theorem dX8_subtract_39 : decode cX8_subtract 39 = .ok (.iload 4, 2) := by decide +kernel
theorem dX8_subtract_41 : decode cX8_subtract 41 = .ok (.bipush 31, 2) := by decide +kernel
theorem dX8_subtract_43 : decode cX8_subtract 43 = .ok (.iushr, 1) := by decide +kernel
theorem dX8_subtract_44 : decode cX8_subtract 44 = .ok (.istore_n 2, 1) := by decide +kernel
theorem dX8_subtract_45 : decode cX8_subtract 45 = .ok (.iinc 3 1, 3) := by decide +kernel
theorem dX8_subtract_48 : decode cX8_subtract 48 = .ok (.goto (-44), 3) := by decide +kernel
theorem dX8_subtract_51 : decode cX8_subtract 51 = .ok (.aload_n 0, 1) := by decide +kernel
theorem dX8_subtract_52 : decode cX8_subtract 52 = .ok (.invokevirtual 23, 3) := by decide +kernel
theorem dX8_subtract_55 : decode cX8_subtract 55 = .ok (.return_, 1) := by decide +kernel
theorem dX8_multiply_0 : decode cX8_multiply 0 = .ok (.lconst 0, 1) := by decide +kernel
theorem dX8_multiply_1 : decode cX8_multiply 1 = .ok (.lstore_n 2, 1) := by decide +kernel
theorem dX8_multiply_2 : decode cX8_multiply 2 = .ok (.iconst 0, 1) := by decide +kernel
theorem dX8_multiply_3 : decode cX8_multiply 3 = .ok (.istore 4, 2) := by decide +kernel
theorem dX8_multiply_5 : decode cX8_multiply 5 = .ok (.iload 4, 2) := by decide +kernel
theorem dX8_multiply_7 : decode cX8_multiply 7 = .ok (.aload_n 0, 1) := by decide +kernel
theorem dX8_multiply_8 : decode cX8_multiply 8 = .ok (.getfield 13, 3) := by decide +kernel
theorem dX8_multiply_11 : decode cX8_multiply 11 = .ok (.if_icmp .ge 41, 3) := by decide +kernel
theorem dX8_multiply_14 : decode cX8_multiply 14 = .ok (.lload_n 2, 1) := by decide +kernel
theorem dX8_multiply_15 : decode cX8_multiply 15 = .ok (.aload_n 0, 1) := by decide +kernel
theorem dX8_multiply_16 : decode cX8_multiply 16 = .ok (.getfield 9, 3) := by decide +kernel
theorem dX8_multiply_19 : decode cX8_multiply 19 = .ok (.iload 4, 2) := by decide +kernel
theorem dX8_multiply_21 : decode cX8_multiply 21 = .ok (.iaload, 1) := by decide +kernel
theorem dX8_multiply_22 : decode cX8_multiply 22 = .ok (.i2l, 1) := by decide +kernel
theorem dX8_multiply_23 : decode cX8_multiply 23 = .ok (.iload_n 1, 1) := by decide +kernel
theorem dX8_multiply_24 : decode cX8_multiply 24 = .ok (.i2l, 1) := by decide +kernel
theorem dX8_multiply_25 : decode cX8_multiply 25 = .ok (.lmul, 1) := by decide +kernel
theorem dX8_multiply_26 : decode cX8_multiply 26 = .ok (.ladd, 1) := by decide +kernel
theorem dX8_multiply_27 : decode cX8_multiply 27 = .ok (.lstore_n 2, 1) := by decide +kernel
theorem dX8_multiply_28 : decode cX8_multiply 28 = .ok (.aload_n 0, 1) := by decide +kernel
theorem dX8_multiply_29 : decode cX8_multiply 29 = .ok (.getfield 9, 3) := by decide +kernel
theorem dX8_multiply_32 : decode cX8_multiply 32 = .ok (.iload 4, 2) := by decide +kernel
theorem dX8_multiply_34 : decode cX8_multiply 34 = .ok (.lload_n 2, 1) := by decide +kernel
theorem dX8_multiply_35 : decode cX8_multiply 35 = .ok (.ldc2_w 17, 3) := by decide +kernel
theorem dX8_multiply_38 : decode cX8_multiply 38 = .ok (.land, 1) := by decide +kernel
theorem dX8_multiply_39 : decode cX8_multiply 39 = .ok (.l2i, 1) := by decide +kernel
theorem dX8_multiply_40 : decode cX8_multiply 40 = .ok (.iastore, 1) := by decide +kernel
theorem dX8_multiply_41 : decode cX8_multiply 41 = .ok (.lload_n 2, 1) := by decide +kernel
theorem dX8_multiply_42 : decode cX8_multiply 42 = .ok (.bipush 30, 2) := by decide +kernel
theorem dX8_multiply_44 : decode cX8_multiply 44 = .ok (.lushr, 1) := by decide +kernel
theorem dX8_multiply_45 : decode cX8_multiply 45 = .ok (.lstore_n 2, 1) := by decide +kernel
theorem dX8_multiply_46 : decode cX8_multiply 46 = .ok (.iinc 4 1, 3) := by decide +kernel
theorem dX8_multiply_49 : decode cX8_multiply 49 = .ok (.goto (-44), 3) := by decide +kernel
theorem dX8_multiply_52 : decode cX8_multiply 52 = .ok (.aload_n 0, 1) := by decide +kernel
theorem dX8_multiply_53 : decode cX8_multiply 53 = .ok (.lload_n 2, 1) := by decide +kernel
theorem dX8_multiply_54 : decode cX8_multiply 54 = .ok (.l2i, 1) := by decide +kernel
theorem dX8_multiply_55 : decode cX8_multiply 55 = .ok (.invokevirtual 19, 3) := by decide +kernel
theorem dX8_multiply_58 : decode cX8_multiply 58 = .ok (.aload_n 0, 1) := by decide +kernel
theorem dX8_multiply_59 : decode cX8_multiply 59 = .ok (.invokevirtual 23, 3) := by decide +kernel
theorem dX8_multiply_62 : decode cX8_multiply 62 = .ok (.return_, 1) := by decide +kernel
theorem dX8_remainder_0 : decode cX8_remainder 0 = .ok (.lconst 0, 1) := by decide +kernel
theorem dX8_remainder_1 : decode cX8_remainder 1 = .ok (.lstore_n 2, 1) := by decide +kernel
theorem dX8_remainder_2 : decode cX8_remainder 2 = .ok (.aload_n 0, 1) := by decide +kernel
theorem dX8_remainder_3 : decode cX8_remainder 3 = .ok (.getfield 13, 3) := by decide +kernel
theorem dX8_remainder_6 : decode cX8_remainder 6 = .ok (.iconst 1, 1) := by decide +kernel
theorem dX8_remainder_7 : decode cX8_remainder 7 = .ok (.isub, 1) := by decide +kernel
theorem dX8_remainder_8 : decode cX8_remainder 8 = .ok (.istore 4, 2) := by decide +kernel
theorem dX8_remainder_10 : decode cX8_remainder 10 = .ok (.iload 4, 2) := by decide +kernel
theorem dX8_remainder_12 : decode cX8_remainder 12 = .ok (.ifCond .lt 30, 3) := by decide +kernel
theorem dX8_remainder_15 : decode cX8_remainder 15 = .ok (.iload_n 1, 1) := by decide +kernel
theorem dX8_remainder_16 : decode cX8_remainder 16 = .ok (.ifCond .le 26, 3) := by decide +kernel
theorem dX8_remainder_19 : decode cX8_remainder 19 = .ok (.lload_n 2, 1) := by decide +kernel
theorem dX8_remainder_20 : decode cX8_remainder 20 = .ok (.bipush 30, 2) := by decide +kernel
theorem dX8_remainder_22 : decode cX8_remainder 22 = .ok (.lshl, 1) := by decide +kernel
theorem dX8_remainder_23 : decode cX8_remainder 23 = .ok (.aload_n 0, 1) := by decide +kernel
theorem dX8_remainder_24 : decode cX8_remainder 24 = .ok (.getfield 9, 3) := by decide +kernel
theorem dX8_remainder_27 : decode cX8_remainder 27 = .ok (.iload 4, 2) := by decide +kernel
theorem dX8_remainder_29 : decode cX8_remainder 29 = .ok (.iaload, 1) := by decide +kernel
theorem dX8_remainder_30 : decode cX8_remainder 30 = .ok (.i2l, 1) := by decide +kernel
theorem dX8_remainder_31 : decode cX8_remainder 31 = .ok (.lor, 1) := by decide +kernel
theorem dX8_remainder_32 : decode cX8_remainder 32 = .ok (.iload_n 1, 1) := by decide +kernel
theorem dX8_remainder_33 : decode cX8_remainder 33 = .ok (.i2l, 1) := by decide +kernel
theorem dX8_remainder_34 : decode cX8_remainder 34 = .ok (.lrem, 1) := by decide +kernel
theorem dX8_remainder_35 : decode cX8_remainder 35 = .ok (.lstore_n 2, 1) := by decide +kernel
theorem dX8_remainder_36 : decode cX8_remainder 36 = .ok (.iinc 4 (-1), 3) := by decide +kernel
theorem dX8_remainder_39 : decode cX8_remainder 39 = .ok (.goto (-29), 3) := by decide +kernel
theorem dX8_remainder_42 : decode cX8_remainder 42 = .ok (.lload_n 2, 1) := by decide +kernel
theorem dX8_remainder_43 : decode cX8_remainder 43 = .ok (.l2i, 1) := by decide +kernel
theorem dX8_remainder_44 : decode cX8_remainder 44 = .ok (.ireturn, 1) := by decide +kernel
theorem dX8_divide_0 : decode cX8_divide 0 = .ok (.lconst 0, 1) := by decide +kernel
theorem dX8_divide_1 : decode cX8_divide 1 = .ok (.lstore_n 2, 1) := by decide +kernel
theorem dX8_divide_2 : decode cX8_divide 2 = .ok (.aload_n 0, 1) := by decide +kernel
theorem dX8_divide_3 : decode cX8_divide 3 = .ok (.getfield 13, 3) := by decide +kernel
theorem dX8_divide_6 : decode cX8_divide 6 = .ok (.iconst 1, 1) := by decide +kernel
theorem dX8_divide_7 : decode cX8_divide 7 = .ok (.isub, 1) := by decide +kernel
theorem dX8_divide_8 : decode cX8_divide 8 = .ok (.istore 4, 2) := by decide +kernel
theorem dX8_divide_10 : decode cX8_divide 10 = .ok (.iload 4, 2) := by decide +kernel
theorem dX8_divide_12 : decode cX8_divide 12 = .ok (.ifCond .lt 44, 3) := by decide +kernel
theorem dX8_divide_15 : decode cX8_divide 15 = .ok (.iload_n 1, 1) := by decide +kernel
theorem dX8_divide_16 : decode cX8_divide 16 = .ok (.ifCond .le 40, 3) := by decide +kernel
theorem dX8_divide_19 : decode cX8_divide 19 = .ok (.lload_n 2, 1) := by decide +kernel
theorem dX8_divide_20 : decode cX8_divide 20 = .ok (.bipush 30, 2) := by decide +kernel
theorem dX8_divide_22 : decode cX8_divide 22 = .ok (.lshl, 1) := by decide +kernel
theorem dX8_divide_23 : decode cX8_divide 23 = .ok (.aload_n 0, 1) := by decide +kernel
theorem dX8_divide_24 : decode cX8_divide 24 = .ok (.getfield 9, 3) := by decide +kernel
theorem dX8_divide_27 : decode cX8_divide 27 = .ok (.iload 4, 2) := by decide +kernel
theorem dX8_divide_29 : decode cX8_divide 29 = .ok (.iaload, 1) := by decide +kernel
theorem dX8_divide_30 : decode cX8_divide 30 = .ok (.i2l, 1) := by decide +kernel
theorem dX8_divide_31 : decode cX8_divide 31 = .ok (.lor, 1) := by decide +kernel
theorem dX8_divide_32 : decode cX8_divide 32 = .ok (.lstore_n 2, 1) := by decide +kernel
theorem dX8_divide_33 : decode cX8_divide 33 = .ok (.aload_n 0, 1) := by decide +kernel
theorem dX8_divide_34 : decode cX8_divide 34 = .ok (.getfield 9, 3) := by decide +kernel
theorem dX8_divide_37 : decode cX8_divide 37 = .ok (.iload 4, 2) := by decide +kernel
theorem dX8_divide_39 : decode cX8_divide 39 = .ok (.lload_n 2, 1) := by decide +kernel
theorem dX8_divide_40 : decode cX8_divide 40 = .ok (.iload_n 1, 1) := by decide +kernel
theorem dX8_divide_41 : decode cX8_divide 41 = .ok (.i2l, 1) := by decide +kernel
theorem dX8_divide_42 : decode cX8_divide 42 = .ok (.ldiv, 1) := by decide +kernel
theorem dX8_divide_43 : decode cX8_divide 43 = .ok (.l2i, 1) := by decide +kernel
theorem dX8_divide_44 : decode cX8_divide 44 = .ok (.iastore, 1) := by decide +kernel
theorem dX8_divide_45 : decode cX8_divide 45 = .ok (.lload_n 2, 1) := by decide +kernel
theorem dX8_divide_46 : decode cX8_divide 46 = .ok (.iload_n 1, 1) := by decide +kernel
theorem dX8_divide_47 : decode cX8_divide 47 = .ok (.i2l, 1) := by decide +kernel
theorem dX8_divide_48 : decode cX8_divide 48 = .ok (.lrem, 1) := by decide +kernel
theorem dX8_divide_49 : decode cX8_divide 49 = .ok (.lstore_n 2, 1) := by decide +kernel
theorem dX8_divide_50 : decode cX8_divide 50 = .ok (.iinc 4 (-1), 3) := by decide +kernel
theorem dX8_divide_53 : decode cX8_divide 53 = .ok (.goto (-43), 3) := by decide +kernel
theorem dX8_divide_56 : decode cX8_divide 56 = .ok (.aload_n 0, 1) := by decide +kernel
theorem dX8_divide_57 : decode cX8_divide 57 = .ok (.invokevirtual 23, 3) := by decide +kernel
theorem dX8_divide_60 : decode cX8_divide 60 = .ok (.return_, 1) := by decide +kernel
theorem dX8_divideByOdd_0 : decode cX8_divideByOdd 0 = .ok (.aload_n 1, 1) := by decide +kernel
theorem dX8_divideByOdd_1 : decode cX8_divideByOdd 1 = .ok (.iconst 0, 1) := by decide +kernel
theorem dX8_divideByOdd_2 : decode cX8_divideByOdd 2 = .ok (.invokevirtual 38, 3) := by decide +kernel
theorem dX8_divideByOdd_5 : decode cX8_divideByOdd 5 = .ok (.invokestatic 43, 3) := by decide +kernel
theorem dX8_divideByOdd_8 : decode cX8_divideByOdd 8 = .ok (.istore_n 2, 1) := by decide +kernel
theorem dX8_divideByOdd_9 : decode cX8_divideByOdd 9 = .ok (.iconst 0, 1) := by decide +kernel
theorem dX8_divideByOdd_10 : decode cX8_divideByOdd 10 = .ok (.istore_n 3, 1) := by decide +kernel
theorem dX8_divideByOdd_11 : decode cX8_divideByOdd 11 = .ok (.iload_n 3, 1) := by decide +kernel
theorem dX8_divideByOdd_12 : decode cX8_divideByOdd 12 = .ok (.aload_n 0, 1) := by decide +kernel
theorem dX8_divideByOdd_13 : decode cX8_divideByOdd 13 = .ok (.getfield 13, 3) := by decide +kernel
theorem dX8_divideByOdd_16 : decode cX8_divideByOdd 16 = .ok (.if_icmp .ge 38, 3) := by decide +kernel
theorem dX8_divideByOdd_19 : decode cX8_divideByOdd 19 = .ok (.aload_n 0, 1) := by decide +kernel
theorem dX8_divideByOdd_20 : decode cX8_divideByOdd 20 = .ok (.getfield 9, 3) := by decide +kernel
theorem dX8_divideByOdd_23 : decode cX8_divideByOdd 23 = .ok (.iload_n 3, 1) := by decide +kernel
theorem dX8_divideByOdd_24 : decode cX8_divideByOdd 24 = .ok (.iaload, 1) := by decide +kernel
theorem dX8_divideByOdd_25 : decode cX8_divideByOdd 25 = .ok (.iload_n 2, 1) := by decide +kernel
theorem dX8_divideByOdd_26 : decode cX8_divideByOdd 26 = .ok (.imul, 1) := by decide +kernel
theorem dX8_divideByOdd_27 : decode cX8_divideByOdd 27 = .ok (.ldc 42, 2) := by decide +kernel
theorem dX8_divideByOdd_29 : decode cX8_divideByOdd 29 = .ok (.iand, 1) := by decide +kernel
theorem dX8_divideByOdd_30 : decode cX8_divideByOdd 30 = .ok (.istore 4, 2) := by decide +kernel
theorem dX8_divideByOdd_32 : decode cX8_divideByOdd 32 = .ok (.aload_n 0, 1) := by decide +kernel
theorem dX8_divideByOdd_33 : decode cX8_divideByOdd 33 = .ok (.aload_n 1, 1) := by decide +kernel
theorem dX8_divideByOdd_34 : decode cX8_divideByOdd 34 = .ok (.iload 4, 2) := by decide +kernel
theorem dX8_divideByOdd_36 : decode cX8_divideByOdd 36 = .ok (.iload_n 3, 1) := by decide +kernel
theorem dX8_divideByOdd_37 : decode cX8_divideByOdd 37 = .ok (.invokevirtual 46, 3) := by decide +kernel
theorem dX8_divideByOdd_40 : decode cX8_divideByOdd 40 = .ok (.aload_n 0, 1) := by decide +kernel
theorem dX8_divideByOdd_41 : decode cX8_divideByOdd 41 = .ok (.getfield 9, 3) := by decide +kernel
theorem dX8_divideByOdd_44 : decode cX8_divideByOdd 44 = .ok (.iload_n 3, 1) := by decide +kernel
theorem dX8_divideByOdd_45 : decode cX8_divideByOdd 45 = .ok (.iload 4, 2) := by decide +kernel
theorem dX8_divideByOdd_47 : decode cX8_divideByOdd 47 = .ok (.iastore, 1) := by decide +kernel
theorem dX8_divideByOdd_48 : decode cX8_divideByOdd 48 = .ok (.iinc 3 1, 3) := by decide +kernel
theorem dX8_divideByOdd_51 : decode cX8_divideByOdd 51 = .ok (.goto (-40), 3) := by decide +kernel
theorem dX8_divideByOdd_54 : decode cX8_divideByOdd 54 = .ok (.aload_n 0, 1) := by decide +kernel
theorem dX8_divideByOdd_55 : decode cX8_divideByOdd 55 = .ok (.invokevirtual 23, 3) := by decide +kernel
theorem dX8_divideByOdd_58 : decode cX8_divideByOdd 58 = .ok (.return_, 1) := by decide +kernel
theorem dX8_takeTimes_0 : decode cX8_takeTimes 0 = .ok (.lconst 0, 1) := by decide +kernel
theorem dX8_takeTimes_1 : decode cX8_takeTimes 1 = .ok (.lstore 4, 2) := by decide +kernel
theorem dX8_takeTimes_3 : decode cX8_takeTimes 3 = .ok (.iload_n 3, 1) := by decide +kernel
theorem dX8_takeTimes_4 : decode cX8_takeTimes 4 = .ok (.istore 6, 2) := by decide +kernel
theorem dX8_takeTimes_6 : decode cX8_takeTimes 6 = .ok (.iload 6, 2) := by decide +kernel
theorem dX8_takeTimes_8 : decode cX8_takeTimes 8 = .ok (.aload_n 0, 1) := by decide +kernel
theorem dX8_takeTimes_9 : decode cX8_takeTimes 9 = .ok (.getfield 13, 3) := by decide +kernel
theorem dX8_takeTimes_12 : decode cX8_takeTimes 12 = .ok (.if_icmp .ge 56, 3) := by decide +kernel
theorem dX8_takeTimes_15 : decode cX8_takeTimes 15 = .ok (.lload 4, 2) := by decide +kernel
theorem dX8_takeTimes_17 : decode cX8_takeTimes 17 = .ok (.aload_n 0, 1) := by decide +kernel
theorem dX8_takeTimes_18 : decode cX8_takeTimes 18 = .ok (.getfield 9, 3) := by decide +kernel
theorem dX8_takeTimes_21 : decode cX8_takeTimes 21 = .ok (.iload 6, 2) := by decide +kernel
theorem dX8_takeTimes_23 : decode cX8_takeTimes 23 = .ok (.iaload, 1) := by decide +kernel
theorem dX8_takeTimes_24 : decode cX8_takeTimes 24 = .ok (.i2l, 1) := by decide +kernel
theorem dX8_takeTimes_25 : decode cX8_takeTimes 25 = .ok (.iload_n 2, 1) := by decide +kernel
theorem dX8_takeTimes_26 : decode cX8_takeTimes 26 = .ok (.i2l, 1) := by decide +kernel
theorem dX8_takeTimes_27 : decode cX8_takeTimes 27 = .ok (.aload_n 1, 1) := by decide +kernel
theorem dX8_takeTimes_28 : decode cX8_takeTimes 28 = .ok (.iload 6, 2) := by decide +kernel
theorem dX8_takeTimes_30 : decode cX8_takeTimes 30 = .ok (.iload_n 3, 1) := by decide +kernel
theorem dX8_takeTimes_31 : decode cX8_takeTimes 31 = .ok (.isub, 1) := by decide +kernel
theorem dX8_takeTimes_32 : decode cX8_takeTimes 32 = .ok (.invokevirtual 38, 3) := by decide +kernel
theorem dX8_takeTimes_35 : decode cX8_takeTimes 35 = .ok (.i2l, 1) := by decide +kernel
theorem dX8_takeTimes_36 : decode cX8_takeTimes 36 = .ok (.lmul, 1) := by decide +kernel
theorem dX8_takeTimes_37 : decode cX8_takeTimes 37 = .ok (.lsub, 1) := by decide +kernel
theorem dX8_takeTimes_38 : decode cX8_takeTimes 38 = .ok (.ladd, 1) := by decide +kernel
theorem dX8_takeTimes_39 : decode cX8_takeTimes 39 = .ok (.lstore 4, 2) := by decide +kernel
theorem dX8_takeTimes_41 : decode cX8_takeTimes 41 = .ok (.aload_n 0, 1) := by decide +kernel
theorem dX8_takeTimes_42 : decode cX8_takeTimes 42 = .ok (.getfield 9, 3) := by decide +kernel
theorem dX8_takeTimes_45 : decode cX8_takeTimes 45 = .ok (.iload 6, 2) := by decide +kernel
theorem dX8_takeTimes_47 : decode cX8_takeTimes 47 = .ok (.lload 4, 2) := by decide +kernel
theorem dX8_takeTimes_49 : decode cX8_takeTimes 49 = .ok (.ldc2_w 17, 3) := by decide +kernel
theorem dX8_takeTimes_52 : decode cX8_takeTimes 52 = .ok (.land, 1) := by decide +kernel
theorem dX8_takeTimes_53 : decode cX8_takeTimes 53 = .ok (.l2i, 1) := by decide +kernel
theorem dX8_takeTimes_54 : decode cX8_takeTimes 54 = .ok (.iastore, 1) := by decide +kernel
theorem dX8_takeTimes_55 : decode cX8_takeTimes 55 = .ok (.lload 4, 2) := by decide +kernel
theorem dX8_takeTimes_57 : decode cX8_takeTimes 57 = .ok (.bipush 30, 2) := by decide +kernel
theorem dX8_takeTimes_59 : decode cX8_takeTimes 59 = .ok (.lshr, 1) := by decide +kernel
theorem dX8_takeTimes_60 : decode cX8_takeTimes 60 = .ok (.lstore 4, 2) := by decide +kernel
theorem dX8_takeTimes_62 : decode cX8_takeTimes 62 = .ok (.iinc 6 1, 3) := by decide +kernel
theorem dX8_takeTimes_65 : decode cX8_takeTimes 65 = .ok (.goto (-59), 3) := by decide +kernel
theorem dX8_takeTimes_68 : decode cX8_takeTimes 68 = .ok (.return_, 1) := by decide +kernel
theorem dX8_inverseOf_0 : decode cX8_inverseOf 0 = .ok (.iload_n 0, 1) := by decide +kernel
theorem dX8_inverseOf_1 : decode cX8_inverseOf 1 = .ok (.istore_n 1, 1) := by decide +kernel
theorem dX8_inverseOf_2 : decode cX8_inverseOf 2 = .ok (.iconst 0, 1) := by decide +kernel
theorem dX8_inverseOf_3 : decode cX8_inverseOf 3 = .ok (.istore_n 2, 1) := by decide +kernel
theorem dX8_inverseOf_4 : decode cX8_inverseOf 4 = .ok (.iload_n 2, 1) := by decide +kernel
theorem dX8_inverseOf_5 : decode cX8_inverseOf 5 = .ok (.iconst 4, 1) := by decide +kernel
theorem dX8_inverseOf_6 : decode cX8_inverseOf 6 = .ok (.if_icmp .ge 17, 3) := by decide +kernel
theorem dX8_inverseOf_9 : decode cX8_inverseOf 9 = .ok (.iload_n 1, 1) := by decide +kernel
theorem dX8_inverseOf_10 : decode cX8_inverseOf 10 = .ok (.iconst 2, 1) := by decide +kernel
theorem dX8_inverseOf_11 : decode cX8_inverseOf 11 = .ok (.iload_n 0, 1) := by decide +kernel
theorem dX8_inverseOf_12 : decode cX8_inverseOf 12 = .ok (.iload_n 1, 1) := by decide +kernel
theorem dX8_inverseOf_13 : decode cX8_inverseOf 13 = .ok (.imul, 1) := by decide +kernel
theorem dX8_inverseOf_14 : decode cX8_inverseOf 14 = .ok (.isub, 1) := by decide +kernel
theorem dX8_inverseOf_15 : decode cX8_inverseOf 15 = .ok (.imul, 1) := by decide +kernel
theorem dX8_inverseOf_16 : decode cX8_inverseOf 16 = .ok (.istore_n 1, 1) := by decide +kernel
theorem dX8_inverseOf_17 : decode cX8_inverseOf 17 = .ok (.iinc 2 1, 3) := by decide +kernel
theorem dX8_inverseOf_20 : decode cX8_inverseOf 20 = .ok (.goto (-16), 3) := by decide +kernel
theorem dX8_inverseOf_23 : decode cX8_inverseOf 23 = .ok (.iload_n 1, 1) := by decide +kernel
theorem dX8_inverseOf_24 : decode cX8_inverseOf 24 = .ok (.ireturn, 1) := by decide +kernel
theorem dX8_twos_0 : decode cX8_twos 0 = .ok (.iconst 0, 1) := by decide +kernel
theorem dX8_twos_1 : decode cX8_twos 1 = .ok (.istore_n 1, 1) := by decide +kernel
theorem dX8_twos_2 : decode cX8_twos 2 = .ok (.iload_n 1, 1) := by decide +kernel
theorem dX8_twos_3 : decode cX8_twos 3 = .ok (.aload_n 0, 1) := by decide +kernel
theorem dX8_twos_4 : decode cX8_twos 4 = .ok (.getfield 13, 3) := by decide +kernel
theorem dX8_twos_7 : decode cX8_twos 7 = .ok (.if_icmp .ge 43, 3) := by decide +kernel
theorem dX8_twos_10 : decode cX8_twos 10 = .ok (.aload_n 0, 1) := by decide +kernel
theorem dX8_twos_11 : decode cX8_twos 11 = .ok (.getfield 9, 3) := by decide +kernel
theorem dX8_twos_14 : decode cX8_twos 14 = .ok (.iload_n 1, 1) := by decide +kernel
theorem dX8_twos_15 : decode cX8_twos 15 = .ok (.iaload, 1) := by decide +kernel
theorem dX8_twos_16 : decode cX8_twos 16 = .ok (.ifCond .eq 28, 3) := by decide +kernel
theorem dX8_twos_19 : decode cX8_twos 19 = .ok (.iload_n 1, 1) := by decide +kernel
theorem dX8_twos_20 : decode cX8_twos 20 = .ok (.bipush 30, 2) := by decide +kernel
theorem dX8_twos_22 : decode cX8_twos 22 = .ok (.imul, 1) := by decide +kernel
theorem dX8_twos_23 : decode cX8_twos 23 = .ok (.aload_n 0, 1) := by decide +kernel
theorem dX8_twos_24 : decode cX8_twos 24 = .ok (.getfield 9, 3) := by decide +kernel
theorem dX8_twos_27 : decode cX8_twos 27 = .ok (.iload_n 1, 1) := by decide +kernel
theorem dX8_twos_28 : decode cX8_twos 28 = .ok (.iaload, 1) := by decide +kernel
theorem dX8_twos_29 : decode cX8_twos 29 = .ok (.aload_n 0, 1) := by decide +kernel
theorem dX8_twos_30 : decode cX8_twos 30 = .ok (.getfield 9, 3) := by decide +kernel
theorem dX8_twos_33 : decode cX8_twos 33 = .ok (.iload_n 1, 1) := by decide +kernel
theorem dX8_twos_34 : decode cX8_twos 34 = .ok (.iaload, 1) := by decide +kernel
theorem dX8_twos_35 : decode cX8_twos 35 = .ok (.ineg, 1) := by decide +kernel
theorem dX8_twos_36 : decode cX8_twos 36 = .ok (.iand, 1) := by decide +kernel
theorem dX8_twos_37 : decode cX8_twos 37 = .ok (.iconst 1, 1) := by decide +kernel
theorem dX8_twos_38 : decode cX8_twos 38 = .ok (.isub, 1) := by decide +kernel
theorem dX8_twos_39 : decode cX8_twos 39 = .ok (.invokestatic 50, 3) := by decide +kernel
theorem dX8_twos_42 : decode cX8_twos 42 = .ok (.iadd, 1) := by decide +kernel
theorem dX8_twos_43 : decode cX8_twos 43 = .ok (.ireturn, 1) := by decide +kernel
theorem dX8_twos_44 : decode cX8_twos 44 = .ok (.iinc 1 1, 3) := by decide +kernel
theorem dX8_twos_47 : decode cX8_twos 47 = .ok (.goto (-45), 3) := by decide +kernel
theorem dX8_twos_50 : decode cX8_twos 50 = .ok (.iconst 0, 1) := by decide +kernel
theorem dX8_twos_51 : decode cX8_twos 51 = .ok (.ireturn, 1) := by decide +kernel
theorem dX8_dropBits_0 : decode cX8_dropBits 0 = .ok (.iload_n 1, 1) := by decide +kernel
theorem dX8_dropBits_1 : decode cX8_dropBits 1 = .ok (.bipush 30, 2) := by decide +kernel
theorem dX8_dropBits_3 : decode cX8_dropBits 3 = .ok (.idiv, 1) := by decide +kernel
theorem dX8_dropBits_4 : decode cX8_dropBits 4 = .ok (.istore_n 2, 1) := by decide +kernel
theorem dX8_dropBits_5 : decode cX8_dropBits 5 = .ok (.iload_n 1, 1) := by decide +kernel
theorem dX8_dropBits_6 : decode cX8_dropBits 6 = .ok (.bipush 30, 2) := by decide +kernel
theorem dX8_dropBits_8 : decode cX8_dropBits 8 = .ok (.irem, 1) := by decide +kernel
theorem dX8_dropBits_9 : decode cX8_dropBits 9 = .ok (.istore_n 3, 1) := by decide +kernel
theorem dX8_dropBits_10 : decode cX8_dropBits 10 = .ok (.iconst 0, 1) := by decide +kernel
theorem dX8_dropBits_11 : decode cX8_dropBits 11 = .ok (.istore 4, 2) := by decide +kernel
theorem dX8_dropBits_13 : decode cX8_dropBits 13 = .ok (.iload 4, 2) := by decide +kernel
theorem dX8_dropBits_15 : decode cX8_dropBits 15 = .ok (.aload_n 0, 1) := by decide +kernel
theorem dX8_dropBits_16 : decode cX8_dropBits 16 = .ok (.getfield 13, 3) := by decide +kernel
theorem dX8_dropBits_19 : decode cX8_dropBits 19 = .ok (.if_icmp .ge 51, 3) := by decide +kernel
theorem dX8_dropBits_22 : decode cX8_dropBits 22 = .ok (.aload_n 0, 1) := by decide +kernel
theorem dX8_dropBits_23 : decode cX8_dropBits 23 = .ok (.iload 4, 2) := by decide +kernel
theorem dX8_dropBits_25 : decode cX8_dropBits 25 = .ok (.iload_n 2, 1) := by decide +kernel
theorem dX8_dropBits_26 : decode cX8_dropBits 26 = .ok (.iadd, 1) := by decide +kernel
theorem dX8_dropBits_27 : decode cX8_dropBits 27 = .ok (.invokevirtual 38, 3) := by decide +kernel
theorem dX8_dropBits_30 : decode cX8_dropBits 30 = .ok (.i2l, 1) := by decide +kernel
theorem dX8_dropBits_31 : decode cX8_dropBits 31 = .ok (.aload_n 0, 1) := by decide +kernel
theorem dX8_dropBits_32 : decode cX8_dropBits 32 = .ok (.iload 4, 2) := by decide +kernel
theorem dX8_dropBits_34 : decode cX8_dropBits 34 = .ok (.iload_n 2, 1) := by decide +kernel
theorem dX8_dropBits_35 : decode cX8_dropBits 35 = .ok (.iadd, 1) := by decide +kernel
theorem dX8_dropBits_36 : decode cX8_dropBits 36 = .ok (.iconst 1, 1) := by decide +kernel
theorem dX8_dropBits_37 : decode cX8_dropBits 37 = .ok (.iadd, 1) := by decide +kernel
theorem dX8_dropBits_38 : decode cX8_dropBits 38 = .ok (.invokevirtual 38, 3) := by decide +kernel
theorem dX8_dropBits_41 : decode cX8_dropBits 41 = .ok (.i2l, 1) := by decide +kernel
theorem dX8_dropBits_42 : decode cX8_dropBits 42 = .ok (.bipush 30, 2) := by decide +kernel
theorem dX8_dropBits_44 : decode cX8_dropBits 44 = .ok (.lshl, 1) := by decide +kernel
theorem dX8_dropBits_45 : decode cX8_dropBits 45 = .ok (.lor, 1) := by decide +kernel
theorem dX8_dropBits_46 : decode cX8_dropBits 46 = .ok (.lstore 5, 2) := by decide +kernel
theorem dX8_dropBits_48 : decode cX8_dropBits 48 = .ok (.aload_n 0, 1) := by decide +kernel
theorem dX8_dropBits_49 : decode cX8_dropBits 49 = .ok (.getfield 9, 3) := by decide +kernel
theorem dX8_dropBits_52 : decode cX8_dropBits 52 = .ok (.iload 4, 2) := by decide +kernel
theorem dX8_dropBits_54 : decode cX8_dropBits 54 = .ok (.lload 5, 2) := by decide +kernel
theorem dX8_dropBits_56 : decode cX8_dropBits 56 = .ok (.iload_n 3, 1) := by decide +kernel
theorem dX8_dropBits_57 : decode cX8_dropBits 57 = .ok (.lshr, 1) := by decide +kernel
theorem dX8_dropBits_58 : decode cX8_dropBits 58 = .ok (.ldc2_w 17, 3) := by decide +kernel
theorem dX8_dropBits_61 : decode cX8_dropBits 61 = .ok (.land, 1) := by decide +kernel
theorem dX8_dropBits_62 : decode cX8_dropBits 62 = .ok (.l2i, 1) := by decide +kernel
theorem dX8_dropBits_63 : decode cX8_dropBits 63 = .ok (.iastore, 1) := by decide +kernel
theorem dX8_dropBits_64 : decode cX8_dropBits 64 = .ok (.iinc 4 1, 3) := by decide +kernel
theorem dX8_dropBits_67 : decode cX8_dropBits 67 = .ok (.goto (-54), 3) := by decide +kernel
theorem dX8_dropBits_70 : decode cX8_dropBits 70 = .ok (.aload_n 0, 1) := by decide +kernel
theorem dX8_dropBits_71 : decode cX8_dropBits 71 = .ok (.invokevirtual 23, 3) := by decide +kernel
theorem dX8_dropBits_74 : decode cX8_dropBits 74 = .ok (.return_, 1) := by decide +kernel
theorem dX8_compareWith_0 : decode cX8_compareWith 0 = .ok (.aload_n 0, 1) := by decide +kernel
theorem dX8_compareWith_1 : decode cX8_compareWith 1 = .ok (.getfield 13, 3) := by decide +kernel
theorem dX8_compareWith_4 : decode cX8_compareWith 4 = .ok (.aload_n 1, 1) := by decide +kernel
theorem dX8_compareWith_5 : decode cX8_compareWith 5 = .ok (.getfield 13, 3) := by decide +kernel
theorem dX8_compareWith_8 : decode cX8_compareWith 8 = .ok (.invokestatic 32, 3) := by decide +kernel
theorem dX8_compareWith_11 : decode cX8_compareWith 11 = .ok (.iconst 1, 1) := by decide +kernel
theorem dX8_compareWith_12 : decode cX8_compareWith 12 = .ok (.isub, 1) := by decide +kernel
theorem dX8_compareWith_13 : decode cX8_compareWith 13 = .ok (.istore_n 2, 1) := by decide +kernel
theorem dX8_compareWith_14 : decode cX8_compareWith 14 = .ok (.iload_n 2, 1) := by decide +kernel
theorem dX8_compareWith_15 : decode cX8_compareWith 15 = .ok (.ifCond .lt 36, 3) := by decide +kernel
theorem dX8_compareWith_18 : decode cX8_compareWith 18 = .ok (.aload_n 0, 1) := by decide +kernel
theorem dX8_compareWith_19 : decode cX8_compareWith 19 = .ok (.iload_n 2, 1) := by decide +kernel
theorem dX8_compareWith_20 : decode cX8_compareWith 20 = .ok (.invokevirtual 38, 3) := by decide +kernel
theorem dX8_compareWith_23 : decode cX8_compareWith 23 = .ok (.aload_n 1, 1) := by decide +kernel
theorem dX8_compareWith_24 : decode cX8_compareWith 24 = .ok (.iload_n 2, 1) := by decide +kernel
theorem dX8_compareWith_25 : decode cX8_compareWith 25 = .ok (.invokevirtual 38, 3) := by decide +kernel
theorem dX8_compareWith_28 : decode cX8_compareWith 28 = .ok (.if_icmp .eq 17, 3) := by decide +kernel
theorem dX8_compareWith_31 : decode cX8_compareWith 31 = .ok (.aload_n 0, 1) := by decide +kernel
theorem dX8_compareWith_32 : decode cX8_compareWith 32 = .ok (.iload_n 2, 1) := by decide +kernel
theorem dX8_compareWith_33 : decode cX8_compareWith 33 = .ok (.invokevirtual 38, 3) := by decide +kernel
theorem dX8_compareWith_36 : decode cX8_compareWith 36 = .ok (.aload_n 1, 1) := by decide +kernel
theorem dX8_compareWith_37 : decode cX8_compareWith 37 = .ok (.iload_n 2, 1) := by decide +kernel
theorem dX8_compareWith_38 : decode cX8_compareWith 38 = .ok (.invokevirtual 38, 3) := by decide +kernel
theorem dX8_compareWith_41 : decode cX8_compareWith 41 = .ok (.invokestatic 55, 3) := by decide +kernel
theorem dX8_compareWith_44 : decode cX8_compareWith 44 = .ok (.ireturn, 1) := by decide +kernel
theorem dX8_compareWith_45 : decode cX8_compareWith 45 = .ok (.iinc 2 (-1), 3) := by decide +kernel
theorem dX8_compareWith_48 : decode cX8_compareWith 48 = .ok (.goto (-34), 3) := by decide +kernel
theorem dX8_compareWith_51 : decode cX8_compareWith 51 = .ok (.iconst 0, 1) := by decide +kernel
theorem dX8_compareWith_52 : decode cX8_compareWith 52 = .ok (.ireturn, 1) := by decide +kernel
theorem dX8_mix_0 : decode cX8_mix 0 = .ok (.lload_n 1, 1) := by decide +kernel
theorem dX8_mix_1 : decode cX8_mix 1 = .ok (.lstore_n 3, 1) := by decide +kernel
theorem dX8_mix_2 : decode cX8_mix 2 = .ok (.iconst 0, 1) := by decide +kernel
theorem dX8_mix_3 : decode cX8_mix 3 = .ok (.istore 5, 2) := by decide +kernel
theorem dX8_mix_5 : decode cX8_mix 5 = .ok (.iload 5, 2) := by decide +kernel
theorem dX8_mix_7 : decode cX8_mix 7 = .ok (.aload_n 0, 1) := by decide +kernel
theorem dX8_mix_8 : decode cX8_mix 8 = .ok (.getfield 13, 3) := by decide +kernel
theorem dX8_mix_11 : decode cX8_mix 11 = .ok (.if_icmp .ge 24, 3) := by decide +kernel
theorem dX8_mix_14 : decode cX8_mix 14 = .ok (.ldc2_w 58, 3) := by decide +kernel
theorem dX8_mix_17 : decode cX8_mix 17 = .ok (.lload_n 3, 1) := by decide +kernel
theorem dX8_mix_18 : decode cX8_mix 18 = .ok (.lmul, 1) := by decide +kernel
theorem dX8_mix_19 : decode cX8_mix 19 = .ok (.aload_n 0, 1) := by decide +kernel
theorem dX8_mix_20 : decode cX8_mix 20 = .ok (.getfield 9, 3) := by decide +kernel
theorem dX8_mix_23 : decode cX8_mix 23 = .ok (.iload 5, 2) := by decide +kernel
theorem dX8_mix_25 : decode cX8_mix 25 = .ok (.iaload, 1) := by decide +kernel
theorem dX8_mix_26 : decode cX8_mix 26 = .ok (.i2l, 1) := by decide +kernel
theorem dX8_mix_27 : decode cX8_mix 27 = .ok (.ladd, 1) := by decide +kernel
theorem dX8_mix_28 : decode cX8_mix 28 = .ok (.lstore_n 3, 1) := by decide +kernel
theorem dX8_mix_29 : decode cX8_mix 29 = .ok (.iinc 5 1, 3) := by decide +kernel
theorem dX8_mix_32 : decode cX8_mix 32 = .ok (.goto (-27), 3) := by decide +kernel
theorem dX8_mix_35 : decode cX8_mix 35 = .ok (.lload_n 3, 1) := by decide +kernel
theorem dX8_mix_36 : decode cX8_mix 36 = .ok (.lreturn, 1) := by decide +kernel
theorem dX8_append_0 : decode cX8_append 0 = .ok (.aload_n 0, 1) := by decide +kernel
theorem dX8_append_1 : decode cX8_append 1 = .ok (.getfield 13, 3) := by decide +kernel
theorem dX8_append_4 : decode cX8_append 4 = .ok (.bipush 64, 2) := by decide +kernel
theorem dX8_append_6 : decode cX8_append 6 = .ok (.if_icmp .ge 23, 3) := by decide +kernel
theorem dX8_append_9 : decode cX8_append 9 = .ok (.aload_n 0, 1) := by decide +kernel
theorem dX8_append_10 : decode cX8_append 10 = .ok (.getfield 9, 3) := by decide +kernel
theorem dX8_append_13 : decode cX8_append 13 = .ok (.aload_n 0, 1) := by decide +kernel
theorem dX8_append_14 : decode cX8_append 14 = .ok (.getfield 13, 3) := by decide +kernel
theorem dX8_append_17 : decode cX8_append 17 = .ok (.iload_n 1, 1) := by decide +kernel
theorem dX8_append_18 : decode cX8_append 18 = .ok (.iastore, 1) := by decide +kernel
theorem dX8_append_19 : decode cX8_append 19 = .ok (.aload_n 0, 1) := by decide +kernel
theorem dX8_append_20 : decode cX8_append 20 = .ok (.dup, 1) := by decide +kernel
theorem dX8_append_21 : decode cX8_append 21 = .ok (.getfield 13, 3) := by decide +kernel
theorem dX8_append_24 : decode cX8_append 24 = .ok (.iconst 1, 1) := by decide +kernel
theorem dX8_append_25 : decode cX8_append 25 = .ok (.iadd, 1) := by decide +kernel
theorem dX8_append_26 : decode cX8_append 26 = .ok (.putfield 13, 3) := by decide +kernel
theorem dX8_append_29 : decode cX8_append 29 = .ok (.return_, 1) := by decide +kernel
theorem dX8_trim_0 : decode cX8_trim 0 = .ok (.aload_n 0, 1) := by decide +kernel
theorem dX8_trim_1 : decode cX8_trim 1 = .ok (.getfield 13, 3) := by decide +kernel
theorem dX8_trim_4 : decode cX8_trim 4 = .ok (.iconst 1, 1) := by decide +kernel
theorem dX8_trim_5 : decode cX8_trim 5 = .ok (.isub, 1) := by decide +kernel
theorem dX8_trim_6 : decode cX8_trim 6 = .ok (.istore_n 1, 1) := by decide +kernel
theorem dX8_trim_7 : decode cX8_trim 7 = .ok (.iload_n 1, 1) := by decide +kernel
theorem dX8_trim_8 : decode cX8_trim 8 = .ok (.ifCond .lt 23, 3) := by decide +kernel
theorem dX8_trim_11 : decode cX8_trim 11 = .ok (.aload_n 0, 1) := by decide +kernel
theorem dX8_trim_12 : decode cX8_trim 12 = .ok (.getfield 9, 3) := by decide +kernel
theorem dX8_trim_15 : decode cX8_trim 15 = .ok (.iload_n 1, 1) := by decide +kernel
theorem dX8_trim_16 : decode cX8_trim 16 = .ok (.iaload, 1) := by decide +kernel
theorem dX8_trim_17 : decode cX8_trim 17 = .ok (.ifCond .ne 14, 3) := by decide +kernel
theorem dX8_trim_20 : decode cX8_trim 20 = .ok (.aload_n 0, 1) := by decide +kernel
theorem dX8_trim_21 : decode cX8_trim 21 = .ok (.iload_n 1, 1) := by decide +kernel
theorem dX8_trim_22 : decode cX8_trim 22 = .ok (.putfield 13, 3) := by decide +kernel
theorem dX8_trim_25 : decode cX8_trim 25 = .ok (.iinc 1 (-1), 3) := by decide +kernel
theorem dX8_trim_28 : decode cX8_trim 28 = .ok (.goto (-21), 3) := by decide +kernel
theorem dX8_trim_31 : decode cX8_trim 31 = .ok (.return_, 1) := by decide +kernel
theorem dX9_init_0 : decode cX9_init 0 = .ok (.aload_n 0, 1) := by decide +kernel
theorem dX9_init_1 : decode cX9_init 1 = .ok (.invokespecial 1, 3) := by decide +kernel
theorem dX9_init_4 : decode cX9_init 4 = .ok (.aload_n 0, 1) := by decide +kernel
theorem dX9_init_5 : decode cX9_init 5 = .ok (.new 7, 3) := by decide +kernel
theorem dX9_init_8 : decode cX9_init 8 = .ok (.dup, 1) := by decide +kernel
theorem dX9_init_9 : decode cX9_init 9 = .ok (.invokespecial 9, 3) := by decide +kernel
theorem dX9_init_12 : decode cX9_init 12 = .ok (.putfield 10, 3) := by decide +kernel
theorem dX9_init_15 : decode cX9_init 15 = .ok (.aload_n 0, 1) := by decide +kernel
theorem dX9_init_16 : decode cX9_init 16 = .ok (.new 7, 3) := by decide +kernel
theorem dX9_init_19 : decode cX9_init 19 = .ok (.dup, 1) := by decide +kernel
theorem dX9_init_20 : decode cX9_init 20 = .ok (.invokespecial 9, 3) := by decide +kernel
theorem dX9_init_23 : decode cX9_init 23 = .ok (.putfield 16, 3) := by decide +kernel
theorem dX9_init_26 : decode cX9_init 26 = .ok (.aload_n 0, 1) := by decide +kernel
theorem dX9_init_27 : decode cX9_init 27 = .ok (.new 7, 3) := by decide +kernel
theorem dX9_init_30 : decode cX9_init 30 = .ok (.dup, 1) := by decide +kernel
theorem dX9_init_31 : decode cX9_init 31 = .ok (.invokespecial 9, 3) := by decide +kernel
theorem dX9_init_34 : decode cX9_init 34 = .ok (.putfield 19, 3) := by decide +kernel
theorem dX9_init_37 : decode cX9_init 37 = .ok (.aload_n 0, 1) := by decide +kernel
theorem dX9_init_38 : decode cX9_init 38 = .ok (.new 7, 3) := by decide +kernel
theorem dX9_init_41 : decode cX9_init 41 = .ok (.dup, 1) := by decide +kernel
theorem dX9_init_42 : decode cX9_init 42 = .ok (.invokespecial 9, 3) := by decide +kernel
theorem dX9_init_45 : decode cX9_init 45 = .ok (.putfield 22, 3) := by decide +kernel
theorem dX9_init_48 : decode cX9_init 48 = .ok (.return_, 1) := by decide +kernel
theorem dX9_prepare_0 : decode cX9_prepare 0 = .ok (.aload_n 0, 1) := by decide +kernel
theorem dX9_prepare_1 : decode cX9_prepare 1 = .ok (.iload_n 1, 1) := by decide +kernel
theorem dX9_prepare_2 : decode cX9_prepare 2 = .ok (.putfield 25, 3) := by decide +kernel
theorem dX9_prepare_5 : decode cX9_prepare 5 = .ok (.aload_n 0, 1) := by decide +kernel
theorem dX9_prepare_6 : decode cX9_prepare 6 = .ok (.iconst 1, 1) := by decide +kernel
theorem dX9_prepare_7 : decode cX9_prepare 7 = .ok (.iload_n 2, 1) := by decide +kernel
theorem dX9_prepare_8 : decode cX9_prepare 8 = .ok (.invokestatic 29, 3) := by decide +kernel
theorem dX9_prepare_11 : decode cX9_prepare 11 = .ok (.putfield 35, 3) := by decide +kernel
theorem dX9_prepare_14 : decode cX9_prepare 14 = .ok (.aload_n 0, 1) := by decide +kernel
theorem dX9_prepare_15 : decode cX9_prepare 15 = .ok (.iload_n 3, 1) := by decide +kernel
theorem dX9_prepare_16 : decode cX9_prepare 16 = .ok (.putfield 38, 3) := by decide +kernel
theorem dX9_prepare_19 : decode cX9_prepare 19 = .ok (.aload_n 0, 1) := by decide +kernel
theorem dX9_prepare_20 : decode cX9_prepare 20 = .ok (.getfield 16, 3) := by decide +kernel
theorem dX9_prepare_23 : decode cX9_prepare 23 = .ok (.lconst 0, 1) := by decide +kernel
theorem dX9_prepare_24 : decode cX9_prepare 24 = .ok (.invokevirtual 41, 3) := by decide +kernel
theorem dX9_prepare_27 : decode cX9_prepare 27 = .ok (.aload_n 0, 1) := by decide +kernel
theorem dX9_prepare_28 : decode cX9_prepare 28 = .ok (.invokevirtual 45, 3) := by decide +kernel
theorem dX9_prepare_31 : decode cX9_prepare 31 = .ok (.aload_n 0, 1) := by decide +kernel
theorem dX9_prepare_32 : decode cX9_prepare 32 = .ok (.getfield 35, 3) := by decide +kernel
theorem dX9_prepare_35 : decode cX9_prepare 35 = .ok (.istore 4, 2) := by decide +kernel
theorem dX9_prepare_37 : decode cX9_prepare 37 = .ok (.iload 4, 2) := by decide +kernel
theorem dX9_prepare_39 : decode cX9_prepare 39 = .ok (.aload_n 0, 1) := by decide +kernel
theorem dX9_prepare_40 : decode cX9_prepare 40 = .ok (.getfield 38, 3) := by decide +kernel
theorem dX9_prepare_43 : decode cX9_prepare 43 = .ok (.if_icmp .gt 28, 3) := by decide +kernel
theorem dX9_prepare_46 : decode cX9_prepare 46 = .ok (.aload_n 0, 1) := by decide +kernel
theorem dX9_prepare_47 : decode cX9_prepare 47 = .ok (.getfield 16, 3) := by decide +kernel
theorem dX9_prepare_50 : decode cX9_prepare 50 = .ok (.aload_n 0, 1) := by decide +kernel
theorem dX9_prepare_51 : decode cX9_prepare 51 = .ok (.getfield 10, 3) := by decide +kernel
theorem dX9_prepare_54 : decode cX9_prepare 54 = .ok (.invokevirtual 48, 3) := by decide +kernel
theorem dX9_prepare_57 : decode cX9_prepare 57 = .ok (.aload_n 0, 1) := by decide +kernel
theorem dX9_prepare_58 : decode cX9_prepare 58 = .ok (.iload 4, 2) := by decide +kernel
theorem dX9_prepare_60 : decode cX9_prepare 60 = .ok (.iconst 1, 1) := by decide +kernel
theorem dX9_prepare_61 : decode cX9_prepare 61 = .ok (.iadd, 1) := by decide +kernel
theorem dX9_prepare_62 : decode cX9_prepare 62 = .ok (.invokevirtual 52, 3) := by decide +kernel
theorem dX9_prepare_65 : decode cX9_prepare 65 = .ok (.iinc 4 1, 3) := by decide +kernel
theorem dX9_prepare_68 : decode cX9_prepare 68 = .ok (.goto (-31), 3) := by decide +kernel
theorem dX9_prepare_71 : decode cX9_prepare 71 = .ok (.return_, 1) := by decide +kernel
theorem dX9_share_0 : decode cX9_share 0 = .ok (.aload_n 0, 1) := by decide +kernel
theorem dX9_share_1 : decode cX9_share 1 = .ok (.getfield 19, 3) := by decide +kernel
theorem dX9_share_4 : decode cX9_share 4 = .ok (.lconst 0, 1) := by decide +kernel
theorem dX9_share_5 : decode cX9_share 5 = .ok (.invokevirtual 41, 3) := by decide +kernel
theorem dX9_share_8 : decode cX9_share 8 = .ok (.aload_n 0, 1) := by decide +kernel
theorem dX9_share_9 : decode cX9_share 9 = .ok (.invokevirtual 45, 3) := by decide +kernel
theorem dX9_share_12 : decode cX9_share 12 = .ok (.aload_n 0, 1) := by decide +kernel
theorem dX9_share_13 : decode cX9_share 13 = .ok (.getfield 35, 3) := by decide +kernel
theorem dX9_share_16 : decode cX9_share 16 = .ok (.istore 4, 2) := by decide +kernel
theorem dX9_share_18 : decode cX9_share 18 = .ok (.iload 4, 2) := by decide +kernel
theorem dX9_share_20 : decode cX9_share 20 = .ok (.aload_n 0, 1) := by decide +kernel
theorem dX9_share_21 : decode cX9_share 21 = .ok (.getfield 38, 3) := by decide +kernel
theorem dX9_share_24 : decode cX9_share 24 = .ok (.if_icmp .gt 40, 3) := by decide +kernel
theorem dX9_share_27 : decode cX9_share 27 = .ok (.iload 4, 2) := by decide +kernel
theorem dX9_share_29 : decode cX9_share 29 = .ok (.iload_n 1, 1) := by decide +kernel
theorem dX9_share_30 : decode cX9_share 30 = .ok (.if_icmp .lt 20, 3) := by decide +kernel
theorem dX9_share_33 : decode cX9_share 33 = .ok (.iload 4, 2) := by decide +kernel
theorem dX9_share_35 : decode cX9_share 35 = .ok (.iload_n 2, 1) := by decide +kernel
theorem dX9_share_36 : decode cX9_share 36 = .ok (.if_icmp .gt 14, 3) := by decide +kernel
theorem dX9_share_39 : decode cX9_share 39 = .ok (.aload_n 0, 1) := by decide +kernel
theorem dX9_share_40 : decode cX9_share 40 = .ok (.getfield 19, 3) := by decide +kernel
theorem dX9_share_43 : decode cX9_share 43 = .ok (.aload_n 0, 1) := by decide +kernel
theorem dX9_share_44 : decode cX9_share 44 = .ok (.getfield 10, 3) := by decide +kernel
theorem dX9_share_47 : decode cX9_share 47 = .ok (.invokevirtual 48, 3) := by decide +kernel
theorem dX9_share_50 : decode cX9_share 50 = .ok (.aload_n 0, 1) := by decide +kernel
theorem dX9_share_51 : decode cX9_share 51 = .ok (.iload 4, 2) := by decide +kernel
theorem dX9_share_53 : decode cX9_share 53 = .ok (.iconst 1, 1) := by decide +kernel
theorem dX9_share_54 : decode cX9_share 54 = .ok (.iadd, 1) := by decide +kernel
theorem dX9_share_55 : decode cX9_share 55 = .ok (.invokevirtual 52, 3) := by decide +kernel
theorem dX9_share_58 : decode cX9_share 58 = .ok (.iinc 4 1, 3) := by decide +kernel
theorem dX9_share_61 : decode cX9_share 61 = .ok (.goto (-43), 3) := by decide +kernel
theorem dX9_share_64 : decode cX9_share 64 = .ok (.aload_n 3, 1) := by decide +kernel
theorem dX9_share_65 : decode cX9_share 65 = .ok (.aload_n 0, 1) := by decide +kernel
theorem dX9_share_66 : decode cX9_share 66 = .ok (.getfield 19, 3) := by decide +kernel
theorem dX9_share_69 : decode cX9_share 69 = .ok (.aload_n 0, 1) := by decide +kernel
theorem dX9_share_70 : decode cX9_share 70 = .ok (.getfield 16, 3) := by decide +kernel
theorem dX9_share_73 : decode cX9_share 73 = .ok (.invokevirtual 56, 3) := by decide +kernel
theorem dX9_share_76 : decode cX9_share 76 = .ok (.return_, 1) := by decide +kernel
theorem dX9_spanEnd_0 : decode cX9_spanEnd 0 = .ok (.aload_n 0, 1) := by decide +kernel
theorem dX9_spanEnd_1 : decode cX9_spanEnd 1 = .ok (.getfield 22, 3) := by decide +kernel
theorem dX9_spanEnd_4 : decode cX9_spanEnd 4 = .ok (.aload_n 0, 1) := by decide +kernel
theorem dX9_spanEnd_5 : decode cX9_spanEnd 5 = .ok (.getfield 16, 3) := by decide +kernel
theorem dX9_spanEnd_8 : decode cX9_spanEnd 8 = .ok (.invokevirtual 61, 3) := by decide +kernel
theorem dX9_spanEnd_11 : decode cX9_spanEnd 11 = .ok (.aload_n 0, 1) := by decide +kernel
theorem dX9_spanEnd_12 : decode cX9_spanEnd 12 = .ok (.getfield 22, 3) := by decide +kernel
theorem dX9_spanEnd_15 : decode cX9_spanEnd 15 = .ok (.iload_n 1, 1) := by decide +kernel
theorem dX9_spanEnd_16 : decode cX9_spanEnd 16 = .ok (.invokevirtual 64, 3) := by decide +kernel
theorem dX9_spanEnd_19 : decode cX9_spanEnd 19 = .ok (.aload_n 0, 1) := by decide +kernel
theorem dX9_spanEnd_20 : decode cX9_spanEnd 20 = .ok (.invokevirtual 45, 3) := by decide +kernel
theorem dX9_spanEnd_23 : decode cX9_spanEnd 23 = .ok (.aload_n 0, 1) := by decide +kernel
theorem dX9_spanEnd_24 : decode cX9_spanEnd 24 = .ok (.getfield 10, 3) := by decide +kernel
theorem dX9_spanEnd_27 : decode cX9_spanEnd 27 = .ok (.iload_n 2, 1) := by decide +kernel
theorem dX9_spanEnd_28 : decode cX9_spanEnd 28 = .ok (.invokevirtual 64, 3) := by decide +kernel
theorem dX9_spanEnd_31 : decode cX9_spanEnd 31 = .ok (.aload_n 0, 1) := by decide +kernel
theorem dX9_spanEnd_32 : decode cX9_spanEnd 32 = .ok (.getfield 19, 3) := by decide +kernel
theorem dX9_spanEnd_35 : decode cX9_spanEnd 35 = .ok (.aload_n 0, 1) := by decide +kernel
theorem dX9_spanEnd_36 : decode cX9_spanEnd 36 = .ok (.getfield 10, 3) := by decide +kernel
theorem dX9_spanEnd_39 : decode cX9_spanEnd 39 = .ok (.invokevirtual 61, 3) := by decide +kernel
theorem dX9_spanEnd_42 : decode cX9_spanEnd 42 = .ok (.aload_n 0, 1) := by decide +kernel
theorem dX9_spanEnd_43 : decode cX9_spanEnd 43 = .ok (.getfield 35, 3) := by decide +kernel
theorem dX9_spanEnd_46 : decode cX9_spanEnd 46 = .ok (.istore_n 3, 1) := by decide +kernel
theorem dX9_spanEnd_47 : decode cX9_spanEnd 47 = .ok (.iload_n 3, 1) := by decide +kernel
theorem dX9_spanEnd_48 : decode cX9_spanEnd 48 = .ok (.aload_n 0, 1) := by decide +kernel
theorem dX9_spanEnd_49 : decode cX9_spanEnd 49 = .ok (.getfield 38, 3) := by decide +kernel
theorem dX9_spanEnd_52 : decode cX9_spanEnd 52 = .ok (.if_icmp .ge 39, 3) := by decide +kernel
theorem dX9_spanEnd_55 : decode cX9_spanEnd 55 = .ok (.aload_n 0, 1) := by decide +kernel
theorem dX9_spanEnd_56 : decode cX9_spanEnd 56 = .ok (.getfield 19, 3) := by decide +kernel
theorem dX9_spanEnd_59 : decode cX9_spanEnd 59 = .ok (.aload_n 0, 1) := by decide +kernel
theorem dX9_spanEnd_60 : decode cX9_spanEnd 60 = .ok (.getfield 22, 3) := by decide +kernel
theorem dX9_spanEnd_63 : decode cX9_spanEnd 63 = .ok (.invokevirtual 67, 3) := by decide +kernel
theorem dX9_spanEnd_66 : decode cX9_spanEnd 66 = .ok (.ifCond .ge 25, 3) := by decide +kernel
theorem dX9_spanEnd_69 : decode cX9_spanEnd 69 = .ok (.iinc 3 1, 3) := by decide +kernel
theorem dX9_spanEnd_72 : decode cX9_spanEnd 72 = .ok (.aload_n 0, 1) := by decide +kernel
theorem dX9_spanEnd_73 : decode cX9_spanEnd 73 = .ok (.iload_n 3, 1) := by decide +kernel
theorem dX9_spanEnd_74 : decode cX9_spanEnd 74 = .ok (.invokevirtual 52, 3) := by decide +kernel
theorem dX9_spanEnd_77 : decode cX9_spanEnd 77 = .ok (.aload_n 0, 1) := by decide +kernel
theorem dX9_spanEnd_78 : decode cX9_spanEnd 78 = .ok (.getfield 19, 3) := by decide +kernel
theorem dX9_spanEnd_81 : decode cX9_spanEnd 81 = .ok (.aload_n 0, 1) := by decide +kernel
theorem dX9_spanEnd_82 : decode cX9_spanEnd 82 = .ok (.getfield 10, 3) := by decide +kernel
theorem dX9_spanEnd_85 : decode cX9_spanEnd 85 = .ok (.invokevirtual 48, 3) := by decide +kernel
theorem dX9_spanEnd_88 : decode cX9_spanEnd 88 = .ok (.goto (-41), 3) := by decide +kernel
theorem dX9_spanEnd_91 : decode cX9_spanEnd 91 = .ok (.iload_n 3, 1) := by decide +kernel
theorem dX9_spanEnd_92 : decode cX9_spanEnd 92 = .ok (.ireturn, 1) := by decide +kernel
theorem dX9_begin_0 : decode cX9_begin 0 = .ok (.aload_n 0, 1) := by decide +kernel
theorem dX9_begin_1 : decode cX9_begin 1 = .ok (.getfield 10, 3) := by decide +kernel
theorem dX9_begin_4 : decode cX9_begin 4 = .ok (.lconst 1, 1) := by decide +kernel
theorem dX9_begin_5 : decode cX9_begin 5 = .ok (.invokevirtual 41, 3) := by decide +kernel
theorem dX9_begin_8 : decode cX9_begin 8 = .ok (.getstatic 71, 3) := by decide +kernel
theorem dX9_begin_11 : decode cX9_begin 11 = .ok (.astore_n 1, 1) := by decide +kernel
theorem dX9_begin_12 : decode cX9_begin 12 = .ok (.aload_n 1, 1) := by decide +kernel
theorem dX9_begin_13 : decode cX9_begin 13 = .ok (.arraylength, 1) := by decide +kernel
theorem dX9_begin_14 : decode cX9_begin 14 = .ok (.istore_n 2, 1) := by decide +kernel
theorem dX9_begin_15 : decode cX9_begin 15 = .ok (.iconst 0, 1) := by decide +kernel
theorem dX9_begin_16 : decode cX9_begin 16 = .ok (.istore_n 3, 1) := by decide +kernel
theorem dX9_begin_17 : decode cX9_begin 17 = .ok (.iload_n 3, 1) := by decide +kernel
theorem dX9_begin_18 : decode cX9_begin 18 = .ok (.iload_n 2, 1) := by decide +kernel
theorem dX9_begin_19 : decode cX9_begin 19 = .ok (.if_icmp .ge 23, 3) := by decide +kernel
theorem dX9_begin_22 : decode cX9_begin 22 = .ok (.aload_n 1, 1) := by decide +kernel
theorem dX9_begin_23 : decode cX9_begin 23 = .ok (.iload_n 3, 1) := by decide +kernel
theorem dX9_begin_24 : decode cX9_begin 24 = .ok (.iaload, 1) := by decide +kernel
theorem dX9_begin_25 : decode cX9_begin 25 = .ok (.istore 4, 2) := by decide +kernel
theorem dX9_begin_27 : decode cX9_begin 27 = .ok (.aload_n 0, 1) := by decide +kernel
theorem dX9_begin_28 : decode cX9_begin 28 = .ok (.getfield 10, 3) := by decide +kernel
theorem dX9_begin_31 : decode cX9_begin 31 = .ok (.iload 4, 2) := by decide +kernel
theorem dX9_begin_33 : decode cX9_begin 33 = .ok (.invokevirtual 64, 3) := by decide +kernel
theorem dX9_begin_36 : decode cX9_begin 36 = .ok (.iinc 3 1, 3) := by decide +kernel
theorem dX9_begin_39 : decode cX9_begin 39 = .ok (.goto (-22), 3) := by decide +kernel
theorem dX9_begin_42 : decode cX9_begin 42 = .ok (.return_, 1) := by decide +kernel
theorem dX9_step_0 : decode cX9_step 0 = .ok (.iload_n 1, 1) := by decide +kernel
theorem dX9_step_1 : decode cX9_step 1 = .ok (.aload_n 0, 1) := by decide +kernel
theorem dX9_step_2 : decode cX9_step 2 = .ok (.getfield 38, 3) := by decide +kernel
theorem dX9_step_5 : decode cX9_step 5 = .ok (.if_icmp .gt 24, 3) := by decide +kernel
theorem dX9_step_8 : decode cX9_step 8 = .ok (.aload_n 0, 1) := by decide +kernel
theorem dX9_step_9 : decode cX9_step 9 = .ok (.getfield 10, 3) := by decide +kernel
theorem dX9_step_12 : decode cX9_step 12 = .ok (.iload_n 1, 1) := by decide +kernel
theorem dX9_step_13 : decode cX9_step 13 = .ok (.aload_n 0, 1) := by decide +kernel
theorem dX9_step_14 : decode cX9_step 14 = .ok (.getfield 25, 3) := by decide +kernel
theorem dX9_step_17 : decode cX9_step 17 = .ok (.isub, 1) := by decide +kernel
theorem dX9_step_18 : decode cX9_step 18 = .ok (.invokevirtual 64, 3) := by decide +kernel
theorem dX9_step_21 : decode cX9_step 21 = .ok (.aload_n 0, 1) := by decide +kernel
theorem dX9_step_22 : decode cX9_step 22 = .ok (.getfield 10, 3) := by decide +kernel
theorem dX9_step_25 : decode cX9_step 25 = .ok (.iload_n 1, 1) := by decide +kernel
theorem dX9_step_26 : decode cX9_step 26 = .ok (.invokevirtual 75, 3) := by decide +kernel
theorem dX9_step_29 : decode cX9_step 29 = .ok (.return_, 1) := by decide +kernel
theorem dX10_init_0 : decode cX10_init 0 = .ok (.aload_n 0, 1) := by decide +kernel
theorem dX10_init_1 : decode cX10_init 1 = .ok (.invokespecial 5, 3) := by decide +kernel
theorem dX10_init_4 : decode cX10_init 4 = .ok (.aload_n 0, 1) := by decide +kernel
theorem dX10_init_5 : decode cX10_init 5 = .ok (.bipush 12, 2) := by decide +kernel
theorem dX10_init_7 : decode cX10_init 7 = .ok (.newarray .int, 2) := by decide +kernel
theorem dX10_init_9 : decode cX10_init 9 = .ok (.putfield 11, 3) := by decide +kernel
theorem dX10_init_12 : decode cX10_init 12 = .ok (.aload_n 0, 1) := by decide +kernel
theorem dX10_init_13 : decode cX10_init 13 = .ok (.bipush 12, 2) := by decide +kernel
theorem dX10_init_15 : decode cX10_init 15 = .ok (.newarray .int, 2) := by decide +kernel
theorem dX10_init_17 : decode cX10_init 17 = .ok (.putfield 15, 3) := by decide +kernel
theorem dX10_init_20 : decode cX10_init 20 = .ok (.aload_n 0, 1) := by decide +kernel
theorem dX10_init_21 : decode cX10_init 21 = .ok (.bipush 12, 2) := by decide +kernel
theorem dX10_init_23 : decode cX10_init 23 = .ok (.newarray .int, 2) := by decide +kernel
theorem dX10_init_25 : decode cX10_init 25 = .ok (.putfield 18, 3) := by decide +kernel
theorem dX10_init_28 : decode cX10_init 28 = .ok (.aload_n 0, 1) := by decide +kernel
theorem dX10_init_29 : decode cX10_init 29 = .ok (.bipush 12, 2) := by decide +kernel
theorem dX10_init_31 : decode cX10_init 31 = .ok (.newarray .int, 2) := by decide +kernel
theorem dX10_init_33 : decode cX10_init 33 = .ok (.putfield 21, 3) := by decide +kernel
theorem dX10_init_36 : decode cX10_init 36 = .ok (.aload_n 0, 1) := by decide +kernel
theorem dX10_init_37 : decode cX10_init 37 = .ok (.bipush 6, 2) := by decide +kernel
theorem dX10_init_39 : decode cX10_init 39 = .ok (.newarray .int, 2) := by decide +kernel
theorem dX10_init_41 : decode cX10_init 41 = .ok (.putfield 24, 3) := by decide +kernel
theorem dX10_init_44 : decode cX10_init 44 = .ok (.aload_n 0, 1) := by decide +kernel
theorem dX10_init_45 : decode cX10_init 45 = .ok (.bipush 6, 2) := by decide +kernel
theorem dX10_init_47 : decode cX10_init 47 = .ok (.newarray .int, 2) := by decide +kernel
theorem dX10_init_49 : decode cX10_init 49 = .ok (.putfield 27, 3) := by decide +kernel
theorem dX10_init_52 : decode cX10_init 52 = .ok (.aload_n 0, 1) := by decide +kernel
theorem dX10_init_53 : decode cX10_init 53 = .ok (.bipush 6, 2) := by decide +kernel
theorem dX10_init_55 : decode cX10_init 55 = .ok (.newarray .int, 2) := by decide +kernel
theorem dX10_init_57 : decode cX10_init 57 = .ok (.putfield 30, 3) := by decide +kernel
theorem dX10_init_60 : decode cX10_init 60 = .ok (.return_, 1) := by decide +kernel
theorem dX10_isRow_0 : decode cX10_isRow 0 = .ok (.iload_n 0, 1) := by decide +kernel
theorem dX10_isRow_1 : decode cX10_isRow 1 = .ok (.iconst 1, 1) := by decide +kernel
theorem dX10_isRow_2 : decode cX10_isRow 2 = .ok (.iconst 4, 1) := by decide +kernel
theorem dX10_isRow_3 : decode cX10_isRow 3 = .ok (.invokestatic 33, 3) := by decide +kernel
theorem dX10_isRow_6 : decode cX10_isRow 6 = .ok (.ifCond .eq 22, 3) := by decide +kernel
theorem dX10_isRow_9 : decode cX10_isRow 9 = .ok (.iload_n 1, 1) := by decide +kernel
theorem dX10_isRow_10 : decode cX10_isRow 10 = .ok (.iconst 0, 1) := by decide +kernel
theorem dX10_isRow_11 : decode cX10_isRow 11 = .ok (.getstatic 37, 3) := by decide +kernel
theorem dX10_isRow_14 : decode cX10_isRow 14 = .ok (.iload_n 0, 1) := by decide +kernel
theorem dX10_isRow_15 : decode cX10_isRow 15 = .ok (.iaload, 1) := by decide +kernel
theorem dX10_isRow_16 : decode cX10_isRow 16 = .ok (.iconst 1, 1) := by decide +kernel
theorem dX10_isRow_17 : decode cX10_isRow 17 = .ok (.isub, 1) := by decide +kernel
theorem dX10_isRow_18 : decode cX10_isRow 18 = .ok (.invokestatic 33, 3) := by decide +kernel
theorem dX10_isRow_21 : decode cX10_isRow 21 = .ok (.ifCond .eq 7, 3) := by decide +kernel
theorem dX10_isRow_24 : decode cX10_isRow 24 = .ok (.iconst 1, 1) := by decide +kernel
theorem dX10_isRow_25 : decode cX10_isRow 25 = .ok (.goto 4, 3) := by decide +kernel
theorem dX10_isRow_28 : decode cX10_isRow 28 = .ok (.iconst 0, 1) := by decide +kernel
theorem dX10_isRow_29 : decode cX10_isRow 29 = .ok (.ireturn, 1) := by decide +kernel
theorem dX10_add_0 : decode cX10_add 0 = .ok (.aload_n 0, 1) := by decide +kernel
theorem dX10_add_1 : decode cX10_add 1 = .ok (.getfield 40, 3) := by decide +kernel
theorem dX10_add_4 : decode cX10_add 4 = .ok (.bipush 12, 2) := by decide +kernel
theorem dX10_add_6 : decode cX10_add 6 = .ok (.if_icmp .lt 6, 3) := by decide +kernel
theorem dX10_add_9 : decode cX10_add 9 = .ok (.bipush (-4), 2) := by decide +kernel
theorem dX10_add_11 : decode cX10_add 11 = .ok (.ireturn, 1) := by decide +kernel
theorem dX10_add_12 : decode cX10_add 12 = .ok (.aload_n 0, 1) := by decide +kernel
theorem dX10_add_13 : decode cX10_add 13 = .ok (.getfield 11, 3) := by decide +kernel
theorem dX10_add_16 : decode cX10_add 16 = .ok (.aload_n 0, 1) := by decide +kernel
theorem dX10_add_17 : decode cX10_add 17 = .ok (.getfield 40, 3) := by decide +kernel
theorem dX10_add_20 : decode cX10_add 20 = .ok (.iload_n 1, 1) := by decide +kernel
theorem dX10_add_21 : decode cX10_add 21 = .ok (.iastore, 1) := by decide +kernel
theorem dX10_add_22 : decode cX10_add 22 = .ok (.aload_n 0, 1) := by decide +kernel
theorem dX10_add_23 : decode cX10_add 23 = .ok (.getfield 15, 3) := by decide +kernel
theorem dX10_add_26 : decode cX10_add 26 = .ok (.aload_n 0, 1) := by decide +kernel
theorem dX10_add_27 : decode cX10_add 27 = .ok (.getfield 40, 3) := by decide +kernel
theorem dX10_add_30 : decode cX10_add 30 = .ok (.iload_n 2, 1) := by decide +kernel
theorem dX10_add_31 : decode cX10_add 31 = .ok (.iastore, 1) := by decide +kernel
theorem dX10_add_32 : decode cX10_add 32 = .ok (.aload_n 0, 1) := by decide +kernel
theorem dX10_add_33 : decode cX10_add 33 = .ok (.getfield 18, 3) := by decide +kernel
theorem dX10_add_36 : decode cX10_add 36 = .ok (.aload_n 0, 1) := by decide +kernel
theorem dX10_add_37 : decode cX10_add 37 = .ok (.getfield 40, 3) := by decide +kernel
theorem dX10_add_40 : decode cX10_add 40 = .ok (.iload_n 3, 1) := by decide +kernel
theorem dX10_add_41 : decode cX10_add 41 = .ok (.iastore, 1) := by decide +kernel
theorem dX10_add_42 : decode cX10_add 42 = .ok (.aload_n 0, 1) := by decide +kernel
theorem dX10_add_43 : decode cX10_add 43 = .ok (.getfield 21, 3) := by decide +kernel
theorem dX10_add_46 : decode cX10_add 46 = .ok (.aload_n 0, 1) := by decide +kernel
theorem dX10_add_47 : decode cX10_add 47 = .ok (.getfield 40, 3) := by decide +kernel
theorem dX10_add_50 : decode cX10_add 50 = .ok (.iload 4, 2) := by decide +kernel
theorem dX10_add_52 : decode cX10_add 52 = .ok (.iastore, 1) := by decide +kernel
theorem dX10_add_53 : decode cX10_add 53 = .ok (.aload_n 0, 1) := by decide +kernel
theorem dX10_add_54 : decode cX10_add 54 = .ok (.dup, 1) := by decide +kernel
theorem dX10_add_55 : decode cX10_add 55 = .ok (.getfield 40, 3) := by decide +kernel
theorem dX10_add_58 : decode cX10_add 58 = .ok (.iconst 1, 1) := by decide +kernel
theorem dX10_add_59 : decode cX10_add 59 = .ok (.iadd, 1) := by decide +kernel
theorem dX10_add_60 : decode cX10_add 60 = .ok (.putfield 40, 3) := by decide +kernel
theorem dX10_add_63 : decode cX10_add 63 = .ok (.aload_n 0, 1) := by decide +kernel
theorem dX10_add_64 : decode cX10_add 64 = .ok (.iconst 0, 1) := by decide +kernel
theorem dX10_add_65 : decode cX10_add 65 = .ok (.putfield 44, 3) := by decide +kernel
theorem dX10_add_68 : decode cX10_add 68 = .ok (.aload_n 0, 1) := by decide +kernel
theorem dX10_add_69 : decode cX10_add 69 = .ok (.getfield 40, 3) := by decide +kernel
theorem dX10_add_72 : decode cX10_add 72 = .ok (.iconst 1, 1) := by decide +kernel
theorem dX10_add_73 : decode cX10_add 73 = .ok (.isub, 1) := by decide +kernel
theorem dX10_add_74 : decode cX10_add 74 = .ok (.ireturn, 1) := by decide +kernel
theorem dX10_clear_0 : decode cX10_clear 0 = .ok (.aload_n 0, 1) := by decide +kernel
theorem dX10_clear_1 : decode cX10_clear 1 = .ok (.getfield 40, 3) := by decide +kernel
theorem dX10_clear_4 : decode cX10_clear 4 = .ok (.istore_n 1, 1) := by decide +kernel
theorem dX10_clear_5 : decode cX10_clear 5 = .ok (.aload_n 0, 1) := by decide +kernel
theorem dX10_clear_6 : decode cX10_clear 6 = .ok (.iconst 0, 1) := by decide +kernel
theorem dX10_clear_7 : decode cX10_clear 7 = .ok (.putfield 40, 3) := by decide +kernel
theorem dX10_clear_10 : decode cX10_clear 10 = .ok (.aload_n 0, 1) := by decide +kernel
theorem dX10_clear_11 : decode cX10_clear 11 = .ok (.iconst 0, 1) := by decide +kernel
theorem dX10_clear_12 : decode cX10_clear 12 = .ok (.putfield 44, 3) := by decide +kernel
theorem dX10_clear_15 : decode cX10_clear 15 = .ok (.iload_n 1, 1) := by decide +kernel
theorem dX10_clear_16 : decode cX10_clear 16 = .ok (.ireturn, 1) := by decide +kernel
theorem dX10_ways_0 : decode cX10_ways 0 = .ok (.aload_n 0, 1) := by decide +kernel
theorem dX10_ways_1 : decode cX10_ways 1 = .ok (.invokevirtual 48, 3) := by decide +kernel
theorem dX10_ways_4 : decode cX10_ways 4 = .ok (.aload_n 0, 1) := by decide +kernel
theorem dX10_ways_5 : decode cX10_ways 5 = .ok (.getfield 51, 3) := by decide +kernel
theorem dX10_ways_8 : decode cX10_ways 8 = .ok (.ireturn, 1) := by decide +kernel
theorem dX10_figuresOf_0 : decode cX10_figuresOf 0 = .ok (.aload_n 0, 1) := by decide +kernel
theorem dX10_figuresOf_1 : decode cX10_figuresOf 1 = .ok (.invokevirtual 48, 3) := by decide +kernel
theorem dX10_figuresOf_4 : decode cX10_figuresOf 4 = .ok (.iload_n 1, 1) := by decide +kernel
theorem dX10_figuresOf_5 : decode cX10_figuresOf 5 = .ok (.ifCond .lt 18, 3) := by decide +kernel
theorem dX10_figuresOf_8 : decode cX10_figuresOf 8 = .ok (.iload_n 1, 1) := by decide +kernel
theorem dX10_figuresOf_9 : decode cX10_figuresOf 9 = .ok (.bipush 6, 2) := by decide +kernel
theorem dX10_figuresOf_11 : decode cX10_figuresOf 11 = .ok (.if_icmp .ge 12, 3) := by decide +kernel
theorem dX10_figuresOf_14 : decode cX10_figuresOf 14 = .ok (.aload_n 0, 1) := by decide +kernel
theorem dX10_figuresOf_15 : decode cX10_figuresOf 15 = .ok (.getfield 24, 3) := by decide +kernel
theorem dX10_figuresOf_18 : decode cX10_figuresOf 18 = .ok (.iload_n 1, 1) := by decide +kernel
theorem dX10_figuresOf_19 : decode cX10_figuresOf 19 = .ok (.iaload, 1) := by decide +kernel
theorem dX10_figuresOf_20 : decode cX10_figuresOf 20 = .ok (.goto 4, 3) := by decide +kernel
theorem dX10_figuresOf_23 : decode cX10_figuresOf 23 = .ok (.iconst 0, 1) := by decide +kernel
theorem dX10_figuresOf_24 : decode cX10_figuresOf 24 = .ok (.ireturn, 1) := by decide +kernel
theorem dX10_searchAll_0 : decode cX10_searchAll 0 = .ok (.aload_n 0, 1) := by decide +kernel
theorem dX10_searchAll_1 : decode cX10_searchAll 1 = .ok (.getfield 44, 3) := by decide +kernel
theorem dX10_searchAll_4 : decode cX10_searchAll 4 = .ok (.ifCond .eq 4, 3) := by decide +kernel
theorem dX10_searchAll_7 : decode cX10_searchAll 7 = .ok (.return_, 1) := by decide +kernel
theorem dX10_searchAll_8 : decode cX10_searchAll 8 = .ok (.aload_n 0, 1) := by decide +kernel
theorem dX10_searchAll_9 : decode cX10_searchAll 9 = .ok (.iconst 1, 1) := by decide +kernel
theorem dX10_searchAll_10 : decode cX10_searchAll 10 = .ok (.putfield 44, 3) := by decide +kernel
theorem dX10_searchAll_13 : decode cX10_searchAll 13 = .ok (.aload_n 0, 1) := by decide +kernel
theorem dX10_searchAll_14 : decode cX10_searchAll 14 = .ok (.getfield 24, 3) := by decide +kernel
theorem dX10_searchAll_17 : decode cX10_searchAll 17 = .ok (.iconst 0, 1) := by decide +kernel
theorem dX10_searchAll_18 : decode cX10_searchAll 18 = .ok (.invokestatic 54, 3) := by decide +kernel
theorem dX10_searchAll_21 : decode cX10_searchAll 21 = .ok (.aload_n 0, 1) := by decide +kernel
theorem dX10_searchAll_22 : decode cX10_searchAll 22 = .ok (.invokevirtual 60, 3) := by decide +kernel
theorem dX10_searchAll_25 : decode cX10_searchAll 25 = .ok (.istore_n 1, 1) := by decide +kernel
theorem dX10_searchAll_26 : decode cX10_searchAll 26 = .ok (.aload_n 0, 1) := by decide +kernel
theorem dX10_searchAll_27 : decode cX10_searchAll 27 = .ok (.iload_n 1, 1) := by decide +kernel
theorem dX10_searchAll_28 : decode cX10_searchAll 28 = .ok (.iconst (-1), 1) := by decide +kernel
theorem dX10_searchAll_29 : decode cX10_searchAll 29 = .ok (.if_icmp .ne 7, 3) := by decide +kernel
theorem dX10_searchAll_32 : decode cX10_searchAll 32 = .ok (.iconst 0, 1) := by decide +kernel
theorem dX10_searchAll_33 : decode cX10_searchAll 33 = .ok (.goto 9, 3) := by decide +kernel
theorem dX10_searchAll_36 : decode cX10_searchAll 36 = .ok (.aload_n 0, 1) := by decide +kernel
theorem dX10_searchAll_37 : decode cX10_searchAll 37 = .ok (.iconst 0, 1) := by decide +kernel
theorem dX10_searchAll_38 : decode cX10_searchAll 38 = .ok (.iload_n 1, 1) := by decide +kernel
theorem dX10_searchAll_39 : decode cX10_searchAll 39 = .ok (.invokestatic 64, 3) := by decide +kernel
theorem dX10_searchAll_42 : decode cX10_searchAll 42 = .ok (.putfield 51, 3) := by decide +kernel
theorem dX10_searchAll_45 : decode cX10_searchAll 45 = .ok (.return_, 1) := by decide +kernel
theorem dX10_extreme_0 : decode cX10_extreme 0 = .ok (.aload_n 0, 1) := by decide +kernel
theorem dX10_extreme_1 : decode cX10_extreme 1 = .ok (.invokevirtual 60, 3) := by decide +kernel
theorem dX10_extreme_4 : decode cX10_extreme 4 = .ok (.istore 4, 2) := by decide +kernel
theorem dX10_extreme_6 : decode cX10_extreme 6 = .ok (.iload 4, 2) := by decide +kernel
theorem dX10_extreme_8 : decode cX10_extreme 8 = .ok (.iconst (-1), 1) := by decide +kernel
theorem dX10_extreme_9 : decode cX10_extreme 9 = .ok (.if_icmp .eq 20, 3) := by decide +kernel
theorem dX10_extreme_12 : decode cX10_extreme 12 = .ok (.aload_n 0, 1) := by decide +kernel
theorem dX10_extreme_13 : decode cX10_extreme 13 = .ok (.iconst 0, 1) := by decide +kernel
theorem dX10_extreme_14 : decode cX10_extreme 14 = .ok (.iload 4, 2) := by decide +kernel
theorem dX10_extreme_16 : decode cX10_extreme 16 = .ok (.iload_n 1, 1) := by decide +kernel
theorem dX10_extreme_17 : decode cX10_extreme 17 = .ok (.iload_n 2, 1) := by decide +kernel
theorem dX10_extreme_18 : decode cX10_extreme 18 = .ok (.iload_n 3, 1) := by decide +kernel
theorem dX10_extreme_19 : decode cX10_extreme 19 = .ok (.invokestatic 68, 3) := by decide +kernel
theorem dX10_extreme_22 : decode cX10_extreme 22 = .ok (.ifCond .eq 7, 3) := by decide +kernel
theorem dX10_extreme_25 : decode cX10_extreme 25 = .ok (.iconst 1, 1) := by decide +kernel
theorem dX10_extreme_26 : decode cX10_extreme 26 = .ok (.goto 4, 3) := by decide +kernel
theorem dX10_extreme_29 : decode cX10_extreme 29 = .ok (.iconst 0, 1) := by decide +kernel
theorem dX10_extreme_30 : decode cX10_extreme 30 = .ok (.istore 5, 2) := by decide +kernel
theorem dX10_extreme_32 : decode cX10_extreme 32 = .ok (.iload 5, 2) := by decide +kernel
theorem dX10_extreme_34 : decode cX10_extreme 34 = .ok (.ifCond .eq 15, 3) := by decide +kernel
theorem dX10_extreme_37 : decode cX10_extreme 37 = .ok (.aload_n 0, 1) := by decide +kernel
theorem dX10_extreme_38 : decode cX10_extreme 38 = .ok (.getfield 27, 3) := by decide +kernel
theorem dX10_extreme_41 : decode cX10_extreme 41 = .ok (.iload_n 1, 1) := by decide +kernel
theorem dX10_extreme_42 : decode cX10_extreme 42 = .ok (.iload_n 2, 1) := by decide +kernel
theorem dX10_extreme_43 : decode cX10_extreme 43 = .ok (.invokestatic 72, 3) := by decide +kernel
theorem dX10_extreme_46 : decode cX10_extreme 46 = .ok (.goto 4, 3) := by decide +kernel
theorem dX10_extreme_49 : decode cX10_extreme 49 = .ok (.iconst (-1), 1) := by decide +kernel
theorem dX10_extreme_50 : decode cX10_extreme 50 = .ok (.ireturn, 1) := by decide +kernel
theorem dX10_startSearch_0 : decode cX10_startSearch 0 = .ok (.aload_n 0, 1) := by decide +kernel
theorem dX10_startSearch_1 : decode cX10_startSearch 1 = .ok (.getfield 27, 3) := by decide +kernel
theorem dX10_startSearch_4 : decode cX10_startSearch 4 = .ok (.iconst 0, 1) := by decide +kernel
theorem dX10_startSearch_5 : decode cX10_startSearch 5 = .ok (.invokestatic 54, 3) := by decide +kernel
theorem dX10_startSearch_8 : decode cX10_startSearch 8 = .ok (.aload_n 0, 1) := by decide +kernel
theorem dX10_startSearch_9 : decode cX10_startSearch 9 = .ok (.getfield 30, 3) := by decide +kernel
theorem dX10_startSearch_12 : decode cX10_startSearch 12 = .ok (.bipush 9, 2) := by decide +kernel
theorem dX10_startSearch_14 : decode cX10_startSearch 14 = .ok (.invokestatic 54, 3) := by decide +kernel
theorem dX10_startSearch_17 : decode cX10_startSearch 17 = .ok (.aload_n 0, 1) := by decide +kernel
theorem dX10_startSearch_18 : decode cX10_startSearch 18 = .ok (.iconst 0, 1) := by decide +kernel
theorem dX10_startSearch_19 : decode cX10_startSearch 19 = .ok (.putfield 76, 3) := by decide +kernel
theorem dX10_startSearch_22 : decode cX10_startSearch 22 = .ok (.aload_n 0, 1) := by decide +kernel
theorem dX10_startSearch_23 : decode cX10_startSearch 23 = .ok (.iconst 1, 1) := by decide +kernel
theorem dX10_startSearch_24 : decode cX10_startSearch 24 = .ok (.aload_n 0, 1) := by decide +kernel
theorem dX10_startSearch_25 : decode cX10_startSearch 25 = .ok (.getfield 40, 3) := by decide +kernel
theorem dX10_startSearch_28 : decode cX10_startSearch 28 = .ok (.ishl, 1) := by decide +kernel
theorem dX10_startSearch_29 : decode cX10_startSearch 29 = .ok (.iconst 1, 1) := by decide +kernel
theorem dX10_startSearch_30 : decode cX10_startSearch 30 = .ok (.isub, 1) := by decide +kernel
theorem dX10_startSearch_31 : decode cX10_startSearch 31 = .ok (.invokevirtual 79, 3) := by decide +kernel
theorem dX10_startSearch_34 : decode cX10_startSearch 34 = .ok (.ireturn, 1) := by decide +kernel
theorem dX10_isFree_0 : decode cX10_isFree 0 = .ok (.aload_n 0, 1) := by decide +kernel
theorem dX10_isFree_1 : decode cX10_isFree 1 = .ok (.getfield 27, 3) := by decide +kernel
theorem dX10_isFree_4 : decode cX10_isFree 4 = .ok (.iload_n 1, 1) := by decide +kernel
theorem dX10_isFree_5 : decode cX10_isFree 5 = .ok (.iaload, 1) := by decide +kernel
theorem dX10_isFree_6 : decode cX10_isFree 6 = .ok (.aload_n 0, 1) := by decide +kernel
theorem dX10_isFree_7 : decode cX10_isFree 7 = .ok (.getfield 30, 3) := by decide +kernel
theorem dX10_isFree_10 : decode cX10_isFree 10 = .ok (.iload_n 1, 1) := by decide +kernel
theorem dX10_isFree_11 : decode cX10_isFree 11 = .ok (.iaload, 1) := by decide +kernel
theorem dX10_isFree_12 : decode cX10_isFree 12 = .ok (.if_icmp .eq 7, 3) := by decide +kernel
theorem dX10_isFree_15 : decode cX10_isFree 15 = .ok (.iconst 1, 1) := by decide +kernel
theorem dX10_isFree_16 : decode cX10_isFree 16 = .ok (.goto 4, 3) := by decide +kernel
theorem dX10_isFree_19 : decode cX10_isFree 19 = .ok (.iconst 0, 1) := by decide +kernel
theorem dX10_isFree_20 : decode cX10_isFree 20 = .ok (.ireturn, 1) := by decide +kernel
theorem dX10_give_0 : decode cX10_give 0 = .ok (.aload_n 0, 1) := by decide +kernel
theorem dX10_give_1 : decode cX10_give 1 = .ok (.getfield 27, 3) := by decide +kernel
theorem dX10_give_4 : decode cX10_give 4 = .ok (.iload_n 1, 1) := by decide +kernel
theorem dX10_give_5 : decode cX10_give 5 = .ok (.iload_n 2, 1) := by decide +kernel
theorem dX10_give_6 : decode cX10_give 6 = .ok (.iastore, 1) := by decide +kernel
theorem dX10_give_7 : decode cX10_give 7 = .ok (.aload_n 0, 1) := by decide +kernel
theorem dX10_give_8 : decode cX10_give 8 = .ok (.getfield 30, 3) := by decide +kernel
theorem dX10_give_11 : decode cX10_give 11 = .ok (.iload_n 1, 1) := by decide +kernel
theorem dX10_give_12 : decode cX10_give 12 = .ok (.iload_n 2, 1) := by decide +kernel
theorem dX10_give_13 : decode cX10_give 13 = .ok (.iastore, 1) := by decide +kernel
theorem dX10_give_14 : decode cX10_give 14 = .ok (.aload_n 0, 1) := by decide +kernel
theorem dX10_give_15 : decode cX10_give 15 = .ok (.dup, 1) := by decide +kernel
theorem dX10_give_16 : decode cX10_give 16 = .ok (.getfield 76, 3) := by decide +kernel
theorem dX10_give_19 : decode cX10_give 19 = .ok (.iconst 1, 1) := by decide +kernel
theorem dX10_give_20 : decode cX10_give 20 = .ok (.iload_n 2, 1) := by decide +kernel
theorem dX10_give_21 : decode cX10_give 21 = .ok (.ishl, 1) := by decide +kernel
theorem dX10_give_22 : decode cX10_give 22 = .ok (.ior, 1) := by decide +kernel
theorem dX10_give_23 : decode cX10_give 23 = .ok (.putfield 76, 3) := by decide +kernel
theorem dX10_give_26 : decode cX10_give 26 = .ok (.return_, 1) := by decide +kernel
theorem dX10_takeBack_0 : decode cX10_takeBack 0 = .ok (.aload_n 0, 1) := by decide +kernel
theorem dX10_takeBack_1 : decode cX10_takeBack 1 = .ok (.dup, 1) := by decide +kernel
theorem dX10_takeBack_2 : decode cX10_takeBack 2 = .ok (.getfield 76, 3) := by decide +kernel
theorem dX10_takeBack_5 : decode cX10_takeBack 5 = .ok (.iconst 1, 1) := by decide +kernel
theorem dX10_takeBack_6 : decode cX10_takeBack 6 = .ok (.aload_n 0, 1) := by decide +kernel
theorem dX10_takeBack_7 : decode cX10_takeBack 7 = .ok (.getfield 27, 3) := by decide +kernel
theorem dX10_takeBack_10 : decode cX10_takeBack 10 = .ok (.iload_n 1, 1) := by decide +kernel
theorem dX10_takeBack_11 : decode cX10_takeBack 11 = .ok (.iaload, 1) := by decide +kernel
theorem dX10_takeBack_12 : decode cX10_takeBack 12 = .ok (.ishl, 1) := by decide +kernel
theorem dX10_takeBack_13 : decode cX10_takeBack 13 = .ok (.iconst (-1), 1) := by decide +kernel
theorem dX10_takeBack_14 : decode cX10_takeBack 14 = .ok (.ixor, 1) := by decide +kernel
theorem dX10_takeBack_15 : decode cX10_takeBack 15 = .ok (.iand, 1) := by decide +kernel
theorem dX10_takeBack_16 : decode cX10_takeBack 16 = .ok (.putfield 76, 3) := by decide +kernel
theorem dX10_takeBack_19 : decode cX10_takeBack 19 = .ok (.aload_n 0, 1) := by decide +kernel
theorem dX10_takeBack_20 : decode cX10_takeBack 20 = .ok (.getfield 27, 3) := by decide +kernel
theorem dX10_takeBack_23 : decode cX10_takeBack 23 = .ok (.iload_n 1, 1) := by decide +kernel
theorem dX10_takeBack_24 : decode cX10_takeBack 24 = .ok (.iconst 0, 1) := by decide +kernel
theorem dX10_takeBack_25 : decode cX10_takeBack 25 = .ok (.iastore, 1) := by decide +kernel
theorem dX10_takeBack_26 : decode cX10_takeBack 26 = .ok (.aload_n 0, 1) := by decide +kernel
theorem dX10_takeBack_27 : decode cX10_takeBack 27 = .ok (.getfield 30, 3) := by decide +kernel
theorem dX10_takeBack_30 : decode cX10_takeBack 30 = .ok (.iload_n 1, 1) := by decide +kernel
theorem dX10_takeBack_31 : decode cX10_takeBack 31 = .ok (.bipush 9, 2) := by decide +kernel
theorem dX10_takeBack_33 : decode cX10_takeBack 33 = .ok (.iastore, 1) := by decide +kernel
theorem dX10_takeBack_34 : decode cX10_takeBack 34 = .ok (.return_, 1) := by decide +kernel
theorem dX10_undecided_0 : decode cX10_undecided 0 = .ok (.iconst 0, 1) := by decide +kernel
theorem dX10_undecided_1 : decode cX10_undecided 1 = .ok (.istore_n 2, 1) := by decide +kernel
theorem dX10_undecided_2 : decode cX10_undecided 2 = .ok (.iconst 0, 1) := by decide +kernel
theorem dX10_undecided_3 : decode cX10_undecided 3 = .ok (.istore_n 3, 1) := by decide +kernel
theorem dX10_undecided_4 : decode cX10_undecided 4 = .ok (.iload_n 3, 1) := by decide +kernel
theorem dX10_undecided_5 : decode cX10_undecided 5 = .ok (.aload_n 0, 1) := by decide +kernel
theorem dX10_undecided_6 : decode cX10_undecided 6 = .ok (.getfield 40, 3) := by decide +kernel
theorem dX10_undecided_9 : decode cX10_undecided 9 = .ok (.if_icmp .ge 115, 3) := by decide +kernel
theorem dX10_undecided_12 : decode cX10_undecided 12 = .ok (.iload_n 1, 1) := by decide +kernel
theorem dX10_undecided_13 : decode cX10_undecided 13 = .ok (.iconst 1, 1) := by decide +kernel
theorem dX10_undecided_14 : decode cX10_undecided 14 = .ok (.iload_n 3, 1) := by decide +kernel
theorem dX10_undecided_15 : decode cX10_undecided 15 = .ok (.ishl, 1) := by decide +kernel
theorem dX10_undecided_16 : decode cX10_undecided 16 = .ok (.iand, 1) := by decide +kernel
theorem dX10_undecided_17 : decode cX10_undecided 17 = .ok (.ifCond .eq 101, 3) := by decide +kernel
theorem dX10_undecided_20 : decode cX10_undecided 20 = .ok (.aload_n 0, 1) := by decide +kernel
theorem dX10_undecided_21 : decode cX10_undecided 21 = .ok (.getfield 27, 3) := by decide +kernel
theorem dX10_undecided_24 : decode cX10_undecided 24 = .ok (.aload_n 0, 1) := by decide +kernel
theorem dX10_undecided_25 : decode cX10_undecided 25 = .ok (.getfield 11, 3) := by decide +kernel
theorem dX10_undecided_28 : decode cX10_undecided 28 = .ok (.iload_n 3, 1) := by decide +kernel
theorem dX10_undecided_29 : decode cX10_undecided 29 = .ok (.iaload, 1) := by decide +kernel
theorem dX10_undecided_30 : decode cX10_undecided 30 = .ok (.aload_n 0, 1) := by decide +kernel
theorem dX10_undecided_31 : decode cX10_undecided 31 = .ok (.getfield 15, 3) := by decide +kernel
theorem dX10_undecided_34 : decode cX10_undecided 34 = .ok (.iload_n 3, 1) := by decide +kernel
theorem dX10_undecided_35 : decode cX10_undecided 35 = .ok (.iaload, 1) := by decide +kernel
theorem dX10_undecided_36 : decode cX10_undecided 36 = .ok (.invokestatic 72, 3) := by decide +kernel
theorem dX10_undecided_39 : decode cX10_undecided 39 = .ok (.istore 4, 2) := by decide +kernel
theorem dX10_undecided_41 : decode cX10_undecided 41 = .ok (.aload_n 0, 1) := by decide +kernel
theorem dX10_undecided_42 : decode cX10_undecided 42 = .ok (.getfield 30, 3) := by decide +kernel
theorem dX10_undecided_45 : decode cX10_undecided 45 = .ok (.aload_n 0, 1) := by decide +kernel
theorem dX10_undecided_46 : decode cX10_undecided 46 = .ok (.getfield 11, 3) := by decide +kernel
theorem dX10_undecided_49 : decode cX10_undecided 49 = .ok (.iload_n 3, 1) := by decide +kernel
theorem dX10_undecided_50 : decode cX10_undecided 50 = .ok (.iaload, 1) := by decide +kernel
theorem dX10_undecided_51 : decode cX10_undecided 51 = .ok (.aload_n 0, 1) := by decide +kernel
theorem dX10_undecided_52 : decode cX10_undecided 52 = .ok (.getfield 15, 3) := by decide +kernel
theorem dX10_undecided_55 : decode cX10_undecided 55 = .ok (.iload_n 3, 1) := by decide +kernel
theorem dX10_undecided_56 : decode cX10_undecided 56 = .ok (.iaload, 1) := by decide +kernel
theorem dX10_undecided_57 : decode cX10_undecided 57 = .ok (.invokestatic 72, 3) := by decide +kernel
theorem dX10_undecided_60 : decode cX10_undecided 60 = .ok (.istore 5, 2) := by decide +kernel
theorem dX10_undecided_62 : decode cX10_undecided 62 = .ok (.iload 5, 2) := by decide +kernel
theorem dX10_undecided_64 : decode cX10_undecided 64 = .ok (.aload_n 0, 1) := by decide +kernel
theorem dX10_undecided_65 : decode cX10_undecided 65 = .ok (.getfield 18, 3) := by decide +kernel
theorem dX10_undecided_68 : decode cX10_undecided 68 = .ok (.iload_n 3, 1) := by decide +kernel
theorem dX10_undecided_69 : decode cX10_undecided 69 = .ok (.iaload, 1) := by decide +kernel
theorem dX10_undecided_70 : decode cX10_undecided 70 = .ok (.if_icmp .lt 14, 3) := by decide +kernel
theorem dX10_undecided_73 : decode cX10_undecided 73 = .ok (.iload 4, 2) := by decide +kernel
theorem dX10_undecided_75 : decode cX10_undecided 75 = .ok (.aload_n 0, 1) := by decide +kernel
theorem dX10_undecided_76 : decode cX10_undecided 76 = .ok (.getfield 21, 3) := by decide +kernel
theorem dX10_undecided_79 : decode cX10_undecided 79 = .ok (.iload_n 3, 1) := by decide +kernel
theorem dX10_undecided_80 : decode cX10_undecided 80 = .ok (.iaload, 1) := by decide +kernel
theorem dX10_undecided_81 : decode cX10_undecided 81 = .ok (.if_icmp .le 5, 3) := by decide +kernel
theorem dX10_undecided_84 : decode cX10_undecided 84 = .ok (.iconst (-1), 1) := by decide +kernel
theorem dX10_undecided_85 : decode cX10_undecided 85 = .ok (.ireturn, 1) := by decide +kernel
theorem dX10_undecided_86 : decode cX10_undecided 86 = .ok (.iload_n 2, 1) := by decide +kernel
theorem dX10_undecided_87 : decode cX10_undecided 87 = .ok (.iload 4, 2) := by decide +kernel
theorem dX10_undecided_89 : decode cX10_undecided 89 = .ok (.aload_n 0, 1) := by decide +kernel
theorem dX10_undecided_90 : decode cX10_undecided 90 = .ok (.getfield 18, 3) := by decide +kernel
theorem dX10_undecided_93 : decode cX10_undecided 93 = .ok (.iload_n 3, 1) := by decide +kernel
theorem dX10_undecided_94 : decode cX10_undecided 94 = .ok (.iaload, 1) := by decide +kernel
theorem dX10_undecided_95 : decode cX10_undecided 95 = .ok (.if_icmp .lt 14, 3) := by decide +kernel
theorem dX10_undecided_98 : decode cX10_undecided 98 = .ok (.iload 5, 2) := by decide +kernel
theorem dX10_undecided_100 : decode cX10_undecided 100 = .ok (.aload_n 0, 1) := by decide +kernel
theorem dX10_undecided_101 : decode cX10_undecided 101 = .ok (.getfield 21, 3) := by decide +kernel
theorem dX10_undecided_104 : decode cX10_undecided 104 = .ok (.iload_n 3, 1) := by decide +kernel
theorem dX10_undecided_105 : decode cX10_undecided 105 = .ok (.iaload, 1) := by decide +kernel
theorem dX10_undecided_106 : decode cX10_undecided 106 = .ok (.if_icmp .le 9, 3) := by decide +kernel
theorem dX10_undecided_109 : decode cX10_undecided 109 = .ok (.iconst 1, 1) := by decide +kernel
theorem dX10_undecided_110 : decode cX10_undecided 110 = .ok (.iload_n 3, 1) := by decide +kernel
theorem dX10_undecided_111 : decode cX10_undecided 111 = .ok (.ishl, 1) := by decide +kernel
theorem dX10_undecided_112 : decode cX10_undecided 112 = .ok (.goto 4, 3) := by decide +kernel
theorem dX10_undecided_115 : decode cX10_undecided 115 = .ok (.iconst 0, 1) := by decide +kernel
theorem dX10_undecided_116 : decode cX10_undecided 116 = .ok (.ior, 1) := by decide +kernel
theorem dX10_undecided_117 : decode cX10_undecided 117 = .ok (.istore_n 2, 1) := by decide +kernel
theorem dX10_undecided_118 : decode cX10_undecided 118 = .ok (.iinc 3 1, 3) := by decide +kernel
theorem dX10_undecided_121 : decode cX10_undecided 121 = .ok (.goto (-117), 3) := by decide +kernel
theorem dX10_undecided_124 : decode cX10_undecided 124 = .ok (.iload_n 2, 1) := by decide +kernel
theorem dX10_undecided_125 : decode cX10_undecided 125 = .ok (.ireturn, 1) := by decide +kernel
theorem dX10_tally_0 : decode cX10_tally 0 = .ok (.iload_n 2, 1) := by decide +kernel
theorem dX10_tally_1 : decode cX10_tally 1 = .ok (.ifCond .ne 8, 3) := by decide +kernel
theorem dX10_tally_4 : decode cX10_tally 4 = .ok (.aload_n 0, 1) := by decide +kernel
theorem dX10_tally_5 : decode cX10_tally 5 = .ok (.invokevirtual 83, 3) := by decide +kernel
theorem dX10_tally_8 : decode cX10_tally 8 = .ok (.ireturn, 1) := by decide +kernel
theorem dX10_tally_9 : decode cX10_tally 9 = .ok (.iload_n 1, 1) := by decide +kernel
theorem dX10_tally_10 : decode cX10_tally 10 = .ok (.bipush 6, 2) := by decide +kernel
theorem dX10_tally_12 : decode cX10_tally 12 = .ok (.if_icmp .ge 11, 3) := by decide +kernel
theorem dX10_tally_15 : decode cX10_tally 15 = .ok (.aload_n 0, 1) := by decide +kernel
theorem dX10_tally_16 : decode cX10_tally 16 = .ok (.iload_n 2, 1) := by decide +kernel
theorem dX10_tally_17 : decode cX10_tally 17 = .ok (.invokevirtual 86, 3) := by decide +kernel
theorem dX10_tally_20 : decode cX10_tally 20 = .ok (.goto 4, 3) := by decide +kernel
theorem dX10_tally_23 : decode cX10_tally 23 = .ok (.iconst (-1), 1) := by decide +kernel
theorem dX10_tally_24 : decode cX10_tally 24 = .ok (.istore_n 3, 1) := by decide +kernel
theorem dX10_tally_25 : decode cX10_tally 25 = .ok (.iconst 0, 1) := by decide +kernel
theorem dX10_tally_26 : decode cX10_tally 26 = .ok (.istore 4, 2) := by decide +kernel
theorem dX10_tally_28 : decode cX10_tally 28 = .ok (.iconst 0, 1) := by decide +kernel
theorem dX10_tally_29 : decode cX10_tally 29 = .ok (.istore 5, 2) := by decide +kernel
theorem dX10_tally_31 : decode cX10_tally 31 = .ok (.iload 5, 2) := by decide +kernel
theorem dX10_tally_33 : decode cX10_tally 33 = .ok (.bipush 10, 2) := by decide +kernel
theorem dX10_tally_35 : decode cX10_tally 35 = .ok (.if_icmp .ge 95, 3) := by decide +kernel
theorem dX10_tally_38 : decode cX10_tally 38 = .ok (.iload_n 3, 1) := by decide +kernel
theorem dX10_tally_39 : decode cX10_tally 39 = .ok (.iconst (-1), 1) := by decide +kernel
theorem dX10_tally_40 : decode cX10_tally 40 = .ok (.if_icmp .eq 90, 3) := by decide +kernel
theorem dX10_tally_43 : decode cX10_tally 43 = .ok (.aload_n 0, 1) := by decide +kernel
theorem dX10_tally_44 : decode cX10_tally 44 = .ok (.getfield 76, 3) := by decide +kernel
theorem dX10_tally_47 : decode cX10_tally 47 = .ok (.iload 5, 2) := by decide +kernel
theorem dX10_tally_49 : decode cX10_tally 49 = .ok (.ishr, 1) := by decide +kernel
theorem dX10_tally_50 : decode cX10_tally 50 = .ok (.iconst 1, 1) := by decide +kernel
theorem dX10_tally_51 : decode cX10_tally 51 = .ok (.iand, 1) := by decide +kernel
theorem dX10_tally_52 : decode cX10_tally 52 = .ok (.ifCond .ne 72, 3) := by decide +kernel
theorem dX10_tally_55 : decode cX10_tally 55 = .ok (.aload_n 0, 1) := by decide +kernel
theorem dX10_tally_56 : decode cX10_tally 56 = .ok (.iload_n 3, 1) := by decide +kernel
theorem dX10_tally_57 : decode cX10_tally 57 = .ok (.iload 5, 2) := by decide +kernel
theorem dX10_tally_59 : decode cX10_tally 59 = .ok (.invokevirtual 89, 3) := by decide +kernel
theorem dX10_tally_62 : decode cX10_tally 62 = .ok (.aload_n 0, 1) := by decide +kernel
theorem dX10_tally_63 : decode cX10_tally 63 = .ok (.iload_n 2, 1) := by decide +kernel
theorem dX10_tally_64 : decode cX10_tally 64 = .ok (.invokevirtual 79, 3) := by decide +kernel
theorem dX10_tally_67 : decode cX10_tally 67 = .ok (.istore 6, 2) := by decide +kernel
theorem dX10_tally_69 : decode cX10_tally 69 = .ok (.iload 6, 2) := by decide +kernel
theorem dX10_tally_71 : decode cX10_tally 71 = .ok (.iconst (-1), 1) := by decide +kernel
theorem dX10_tally_72 : decode cX10_tally 72 = .ok (.if_icmp .ne 7, 3) := by decide +kernel
theorem dX10_tally_75 : decode cX10_tally 75 = .ok (.iconst 0, 1) := by decide +kernel
theorem dX10_tally_76 : decode cX10_tally 76 = .ok (.goto 12, 3) := by decide +kernel
theorem dX10_tally_79 : decode cX10_tally 79 = .ok (.aload_n 0, 1) := by decide +kernel
theorem dX10_tally_80 : decode cX10_tally 80 = .ok (.iload_n 1, 1) := by decide +kernel
theorem dX10_tally_81 : decode cX10_tally 81 = .ok (.iconst 1, 1) := by decide +kernel
theorem dX10_tally_82 : decode cX10_tally 82 = .ok (.iadd, 1) := by decide +kernel
theorem dX10_tally_83 : decode cX10_tally 83 = .ok (.iload 6, 2) := by decide +kernel
theorem dX10_tally_85 : decode cX10_tally 85 = .ok (.invokestatic 64, 3) := by decide +kernel
theorem dX10_tally_88 : decode cX10_tally 88 = .ok (.istore 7, 2) := by decide +kernel
theorem dX10_tally_90 : decode cX10_tally 90 = .ok (.aload_n 0, 1) := by decide +kernel
theorem dX10_tally_91 : decode cX10_tally 91 = .ok (.iload_n 3, 1) := by decide +kernel
theorem dX10_tally_92 : decode cX10_tally 92 = .ok (.invokevirtual 93, 3) := by decide +kernel
theorem dX10_tally_95 : decode cX10_tally 95 = .ok (.aload_n 0, 1) := by decide +kernel
theorem dX10_tally_96 : decode cX10_tally 96 = .ok (.getfield 24, 3) := by decide +kernel
theorem dX10_tally_99 : decode cX10_tally 99 = .ok (.iload_n 3, 1) := by decide +kernel
theorem dX10_tally_100 : decode cX10_tally 100 = .ok (.dup2, 1) := by decide +kernel
theorem dX10_tally_101 : decode cX10_tally 101 = .ok (.iaload, 1) := by decide +kernel
theorem dX10_tally_102 : decode cX10_tally 102 = .ok (.iload 7, 2) := by decide +kernel
theorem dX10_tally_104 : decode cX10_tally 104 = .ok (.ifCond .le 10, 3) := by decide +kernel
theorem dX10_tally_107 : decode cX10_tally 107 = .ok (.iconst 1, 1) := by decide +kernel
theorem dX10_tally_108 : decode cX10_tally 108 = .ok (.iload 5, 2) := by decide +kernel
theorem dX10_tally_110 : decode cX10_tally 110 = .ok (.ishl, 1) := by decide +kernel
theorem dX10_tally_111 : decode cX10_tally 111 = .ok (.goto 4, 3) := by decide +kernel
theorem dX10_tally_114 : decode cX10_tally 114 = .ok (.iconst 0, 1) := by decide +kernel
theorem dX10_tally_115 : decode cX10_tally 115 = .ok (.ior, 1) := by decide +kernel
theorem dX10_tally_116 : decode cX10_tally 116 = .ok (.iastore, 1) := by decide +kernel
theorem dX10_tally_117 : decode cX10_tally 117 = .ok (.iload 4, 2) := by decide +kernel
theorem dX10_tally_119 : decode cX10_tally 119 = .ok (.iload 7, 2) := by decide +kernel
theorem dX10_tally_121 : decode cX10_tally 121 = .ok (.iadd, 1) := by decide +kernel
theorem dX10_tally_122 : decode cX10_tally 122 = .ok (.istore 4, 2) := by decide +kernel
theorem dX10_tally_124 : decode cX10_tally 124 = .ok (.iinc 5 1, 3) := by decide +kernel
theorem dX10_tally_127 : decode cX10_tally 127 = .ok (.goto (-96), 3) := by decide +kernel
theorem dX10_tally_130 : decode cX10_tally 130 = .ok (.iload 4, 2) := by decide +kernel
theorem dX10_tally_132 : decode cX10_tally 132 = .ok (.ireturn, 1) := by decide +kernel
theorem dX10_countRest_0 : decode cX10_countRest 0 = .ok (.iconst 1, 1) := by decide +kernel
theorem dX10_countRest_1 : decode cX10_countRest 1 = .ok (.istore_n 1, 1) := by decide +kernel
theorem dX10_countRest_2 : decode cX10_countRest 2 = .ok (.bipush 10, 2) := by decide +kernel
theorem dX10_countRest_4 : decode cX10_countRest 4 = .ok (.aload_n 0, 1) := by decide +kernel
theorem dX10_countRest_5 : decode cX10_countRest 5 = .ok (.getfield 76, 3) := by decide +kernel
theorem dX10_countRest_8 : decode cX10_countRest 8 = .ok (.invokestatic 97, 3) := by decide +kernel
theorem dX10_countRest_11 : decode cX10_countRest 11 = .ok (.isub, 1) := by decide +kernel
theorem dX10_countRest_12 : decode cX10_countRest 12 = .ok (.istore_n 2, 1) := by decide +kernel
theorem dX10_countRest_13 : decode cX10_countRest 13 = .ok (.iconst 0, 1) := by decide +kernel
theorem dX10_countRest_14 : decode cX10_countRest 14 = .ok (.istore_n 3, 1) := by decide +kernel
theorem dX10_countRest_15 : decode cX10_countRest 15 = .ok (.iload_n 3, 1) := by decide +kernel
theorem dX10_countRest_16 : decode cX10_countRest 16 = .ok (.bipush 6, 2) := by decide +kernel
theorem dX10_countRest_18 : decode cX10_countRest 18 = .ok (.if_icmp .ge 48, 3) := by decide +kernel
theorem dX10_countRest_21 : decode cX10_countRest 21 = .ok (.iload_n 2, 1) := by decide +kernel
theorem dX10_countRest_22 : decode cX10_countRest 22 = .ok (.iconst 4, 1) := by decide +kernel
theorem dX10_countRest_23 : decode cX10_countRest 23 = .ok (.if_icmp .le 43, 3) := by decide +kernel
theorem dX10_countRest_26 : decode cX10_countRest 26 = .ok (.aload_n 0, 1) := by decide +kernel
theorem dX10_countRest_27 : decode cX10_countRest 27 = .ok (.iload_n 3, 1) := by decide +kernel
theorem dX10_countRest_28 : decode cX10_countRest 28 = .ok (.invokevirtual 102, 3) := by decide +kernel
theorem dX10_countRest_31 : decode cX10_countRest 31 = .ok (.ifCond .eq 29, 3) := by decide +kernel
theorem dX10_countRest_34 : decode cX10_countRest 34 = .ok (.aload_n 0, 1) := by decide +kernel
theorem dX10_countRest_35 : decode cX10_countRest 35 = .ok (.getfield 24, 3) := by decide +kernel
theorem dX10_countRest_38 : decode cX10_countRest 38 = .ok (.iload_n 3, 1) := by decide +kernel
theorem dX10_countRest_39 : decode cX10_countRest 39 = .ok (.dup2, 1) := by decide +kernel
theorem dX10_countRest_40 : decode cX10_countRest 40 = .ok (.iaload, 1) := by decide +kernel
theorem dX10_countRest_41 : decode cX10_countRest 41 = .ok (.sipush 1023, 3) := by decide +kernel
theorem dX10_countRest_44 : decode cX10_countRest 44 = .ok (.aload_n 0, 1) := by decide +kernel
theorem dX10_countRest_45 : decode cX10_countRest 45 = .ok (.getfield 76, 3) := by decide +kernel
theorem dX10_countRest_48 : decode cX10_countRest 48 = .ok (.iconst (-1), 1) := by decide +kernel
theorem dX10_countRest_49 : decode cX10_countRest 49 = .ok (.ixor, 1) := by decide +kernel
theorem dX10_countRest_50 : decode cX10_countRest 50 = .ok (.iand, 1) := by decide +kernel
theorem dX10_countRest_51 : decode cX10_countRest 51 = .ok (.ior, 1) := by decide +kernel
theorem dX10_countRest_52 : decode cX10_countRest 52 = .ok (.iastore, 1) := by decide +kernel
theorem dX10_countRest_53 : decode cX10_countRest 53 = .ok (.iload_n 1, 1) := by decide +kernel
theorem dX10_countRest_54 : decode cX10_countRest 54 = .ok (.iload_n 2, 1) := by decide +kernel
theorem dX10_countRest_55 : decode cX10_countRest 55 = .ok (.imul, 1) := by decide +kernel
theorem dX10_countRest_56 : decode cX10_countRest 56 = .ok (.istore_n 1, 1) := by decide +kernel
theorem dX10_countRest_57 : decode cX10_countRest 57 = .ok (.iinc 2 (-1), 3) := by decide +kernel
theorem dX10_countRest_60 : decode cX10_countRest 60 = .ok (.iinc 3 1, 3) := by decide +kernel
theorem dX10_countRest_63 : decode cX10_countRest 63 = .ok (.goto (-48), 3) := by decide +kernel
theorem dX10_countRest_66 : decode cX10_countRest 66 = .ok (.iload_n 1, 1) := by decide +kernel
theorem dX10_countRest_67 : decode cX10_countRest 67 = .ok (.ireturn, 1) := by decide +kernel
theorem dX10_seek_0 : decode cX10_seek 0 = .ok (.aload_n 0, 1) := by decide +kernel
theorem dX10_seek_1 : decode cX10_seek 1 = .ok (.iload_n 3, 1) := by decide +kernel
theorem dX10_seek_2 : decode cX10_seek 2 = .ok (.iload 4, 2) := by decide +kernel
theorem dX10_seek_4 : decode cX10_seek 4 = .ok (.invokevirtual 106, 3) := by decide +kernel
theorem dX10_seek_7 : decode cX10_seek 7 = .ok (.istore 6, 2) := by decide +kernel
theorem dX10_seek_9 : decode cX10_seek 9 = .ok (.iload 6, 2) := by decide +kernel
theorem dX10_seek_11 : decode cX10_seek 11 = .ok (.iconst (-1), 1) := by decide +kernel
theorem dX10_seek_12 : decode cX10_seek 12 = .ok (.if_icmp .ne 9, 3) := by decide +kernel
theorem dX10_seek_15 : decode cX10_seek 15 = .ok (.iload_n 2, 1) := by decide +kernel
theorem dX10_seek_16 : decode cX10_seek 16 = .ok (.ifCond .ne 5, 3) := by decide +kernel
theorem dX10_seek_19 : decode cX10_seek 19 = .ok (.iconst 1, 1) := by decide +kernel
theorem dX10_seek_20 : decode cX10_seek 20 = .ok (.ireturn, 1) := by decide +kernel
theorem dX10_seek_21 : decode cX10_seek 21 = .ok (.iload 6, 2) := by decide +kernel
theorem dX10_seek_23 : decode cX10_seek 23 = .ok (.iconst (-1), 1) := by decide +kernel
theorem dX10_seek_24 : decode cX10_seek 24 = .ok (.if_icmp .ne 11, 3) := by decide +kernel
theorem dX10_seek_27 : decode cX10_seek 27 = .ok (.aload_n 0, 1) := by decide +kernel
theorem dX10_seek_28 : decode cX10_seek 28 = .ok (.iload_n 2, 1) := by decide +kernel
theorem dX10_seek_29 : decode cX10_seek 29 = .ok (.invokevirtual 86, 3) := by decide +kernel
theorem dX10_seek_32 : decode cX10_seek 32 = .ok (.goto 5, 3) := by decide +kernel
theorem dX10_seek_35 : decode cX10_seek 35 = .ok (.iload 6, 2) := by decide +kernel
theorem dX10_seek_37 : decode cX10_seek 37 = .ok (.istore 6, 2) := by decide +kernel
theorem dX10_seek_39 : decode cX10_seek 39 = .ok (.iconst 0, 1) := by decide +kernel
theorem dX10_seek_40 : decode cX10_seek 40 = .ok (.istore 7, 2) := by decide +kernel
theorem dX10_seek_42 : decode cX10_seek 42 = .ok (.iload 7, 2) := by decide +kernel
theorem dX10_seek_44 : decode cX10_seek 44 = .ok (.bipush 10, 2) := by decide +kernel
theorem dX10_seek_46 : decode cX10_seek 46 = .ok (.if_icmp .ge 96, 3) := by decide +kernel
theorem dX10_seek_49 : decode cX10_seek 49 = .ok (.iload 6, 2) := by decide +kernel
theorem dX10_seek_51 : decode cX10_seek 51 = .ok (.iconst (-1), 1) := by decide +kernel
theorem dX10_seek_52 : decode cX10_seek 52 = .ok (.if_icmp .eq 90, 3) := by decide +kernel
theorem dX10_seek_55 : decode cX10_seek 55 = .ok (.iload_n 1, 1) := by decide +kernel
theorem dX10_seek_56 : decode cX10_seek 56 = .ok (.bipush 6, 2) := by decide +kernel
theorem dX10_seek_58 : decode cX10_seek 58 = .ok (.if_icmp .ge 84, 3) := by decide +kernel
theorem dX10_seek_61 : decode cX10_seek 61 = .ok (.iload 5, 2) := by decide +kernel
theorem dX10_seek_63 : decode cX10_seek 63 = .ok (.ifCond .eq 11, 3) := by decide +kernel
theorem dX10_seek_66 : decode cX10_seek 66 = .ok (.bipush 9, 2) := by decide +kernel
theorem dX10_seek_68 : decode cX10_seek 68 = .ok (.iload 7, 2) := by decide +kernel
theorem dX10_seek_70 : decode cX10_seek 70 = .ok (.isub, 1) := by decide +kernel
theorem dX10_seek_71 : decode cX10_seek 71 = .ok (.goto 5, 3) := by decide +kernel
theorem dX10_seek_74 : decode cX10_seek 74 = .ok (.iload 7, 2) := by decide +kernel
theorem dX10_seek_76 : decode cX10_seek 76 = .ok (.istore 8, 2) := by decide +kernel
theorem dX10_seek_78 : decode cX10_seek 78 = .ok (.aload_n 0, 1) := by decide +kernel
theorem dX10_seek_79 : decode cX10_seek 79 = .ok (.getfield 76, 3) := by decide +kernel
theorem dX10_seek_82 : decode cX10_seek 82 = .ok (.iload 8, 2) := by decide +kernel
theorem dX10_seek_84 : decode cX10_seek 84 = .ok (.ishr, 1) := by decide +kernel
theorem dX10_seek_85 : decode cX10_seek 85 = .ok (.iconst 1, 1) := by decide +kernel
theorem dX10_seek_86 : decode cX10_seek 86 = .ok (.iand, 1) := by decide +kernel
theorem dX10_seek_87 : decode cX10_seek 87 = .ok (.ifCond .ne 49, 3) := by decide +kernel
theorem dX10_seek_90 : decode cX10_seek 90 = .ok (.aload_n 0, 1) := by decide +kernel
theorem dX10_seek_91 : decode cX10_seek 91 = .ok (.iload 6, 2) := by decide +kernel
theorem dX10_seek_93 : decode cX10_seek 93 = .ok (.iload 8, 2) := by decide +kernel
theorem dX10_seek_95 : decode cX10_seek 95 = .ok (.invokevirtual 89, 3) := by decide +kernel
theorem dX10_seek_98 : decode cX10_seek 98 = .ok (.aload_n 0, 1) := by decide +kernel
theorem dX10_seek_99 : decode cX10_seek 99 = .ok (.iload_n 2, 1) := by decide +kernel
theorem dX10_seek_100 : decode cX10_seek 100 = .ok (.invokevirtual 79, 3) := by decide +kernel
theorem dX10_seek_103 : decode cX10_seek 103 = .ok (.istore 9, 2) := by decide +kernel
theorem dX10_seek_105 : decode cX10_seek 105 = .ok (.iload 9, 2) := by decide +kernel
theorem dX10_seek_107 : decode cX10_seek 107 = .ok (.iconst (-1), 1) := by decide +kernel
theorem dX10_seek_108 : decode cX10_seek 108 = .ok (.if_icmp .eq 22, 3) := by decide +kernel
theorem dX10_seek_111 : decode cX10_seek 111 = .ok (.aload_n 0, 1) := by decide +kernel
theorem dX10_seek_112 : decode cX10_seek 112 = .ok (.iload_n 1, 1) := by decide +kernel
theorem dX10_seek_113 : decode cX10_seek 113 = .ok (.iconst 1, 1) := by decide +kernel
theorem dX10_seek_114 : decode cX10_seek 114 = .ok (.iadd, 1) := by decide +kernel
theorem dX10_seek_115 : decode cX10_seek 115 = .ok (.iload 9, 2) := by decide +kernel
theorem dX10_seek_117 : decode cX10_seek 117 = .ok (.iload_n 3, 1) := by decide +kernel
theorem dX10_seek_118 : decode cX10_seek 118 = .ok (.iload 4, 2) := by decide +kernel
theorem dX10_seek_120 : decode cX10_seek 120 = .ok (.iload 5, 2) := by decide +kernel
theorem dX10_seek_122 : decode cX10_seek 122 = .ok (.invokestatic 68, 3) := by decide +kernel
theorem dX10_seek_125 : decode cX10_seek 125 = .ok (.ifCond .eq 5, 3) := by decide +kernel
theorem dX10_seek_128 : decode cX10_seek 128 = .ok (.iconst 1, 1) := by decide +kernel
theorem dX10_seek_129 : decode cX10_seek 129 = .ok (.ireturn, 1) := by decide +kernel
theorem dX10_seek_130 : decode cX10_seek 130 = .ok (.aload_n 0, 1) := by decide +kernel
theorem dX10_seek_131 : decode cX10_seek 131 = .ok (.iload 6, 2) := by decide +kernel
theorem dX10_seek_133 : decode cX10_seek 133 = .ok (.invokevirtual 93, 3) := by decide +kernel
theorem dX10_seek_136 : decode cX10_seek 136 = .ok (.iinc 7 1, 3) := by decide +kernel
theorem dX10_seek_139 : decode cX10_seek 139 = .ok (.goto (-97), 3) := by decide +kernel
theorem dX10_seek_142 : decode cX10_seek 142 = .ok (.iconst 0, 1) := by decide +kernel
theorem dX10_seek_143 : decode cX10_seek 143 = .ok (.ireturn, 1) := by decide +kernel
theorem dX10_freeLetterOf_0 : decode cX10_freeLetterOf 0 = .ok (.iconst 0, 1) := by decide +kernel
theorem dX10_freeLetterOf_1 : decode cX10_freeLetterOf 1 = .ok (.istore_n 2, 1) := by decide +kernel
theorem dX10_freeLetterOf_2 : decode cX10_freeLetterOf 2 = .ok (.iload_n 2, 1) := by decide +kernel
theorem dX10_freeLetterOf_3 : decode cX10_freeLetterOf 3 = .ok (.aload_n 0, 1) := by decide +kernel
theorem dX10_freeLetterOf_4 : decode cX10_freeLetterOf 4 = .ok (.getfield 40, 3) := by decide +kernel
theorem dX10_freeLetterOf_7 : decode cX10_freeLetterOf 7 = .ok (.if_icmp .ge 34, 3) := by decide +kernel
theorem dX10_freeLetterOf_10 : decode cX10_freeLetterOf 10 = .ok (.iload_n 1, 1) := by decide +kernel
theorem dX10_freeLetterOf_11 : decode cX10_freeLetterOf 11 = .ok (.iconst 1, 1) := by decide +kernel
theorem dX10_freeLetterOf_12 : decode cX10_freeLetterOf 12 = .ok (.iload_n 2, 1) := by decide +kernel
theorem dX10_freeLetterOf_13 : decode cX10_freeLetterOf 13 = .ok (.ishl, 1) := by decide +kernel
theorem dX10_freeLetterOf_14 : decode cX10_freeLetterOf 14 = .ok (.iand, 1) := by decide +kernel
theorem dX10_freeLetterOf_15 : decode cX10_freeLetterOf 15 = .ok (.ifCond .eq 20, 3) := by decide +kernel
theorem dX10_freeLetterOf_18 : decode cX10_freeLetterOf 18 = .ok (.aload_n 0, 1) := by decide +kernel
theorem dX10_freeLetterOf_19 : decode cX10_freeLetterOf 19 = .ok (.aload_n 0, 1) := by decide +kernel
theorem dX10_freeLetterOf_20 : decode cX10_freeLetterOf 20 = .ok (.getfield 11, 3) := by decide +kernel
theorem dX10_freeLetterOf_23 : decode cX10_freeLetterOf 23 = .ok (.iload_n 2, 1) := by decide +kernel
theorem dX10_freeLetterOf_24 : decode cX10_freeLetterOf 24 = .ok (.iaload, 1) := by decide +kernel
theorem dX10_freeLetterOf_25 : decode cX10_freeLetterOf 25 = .ok (.aload_n 0, 1) := by decide +kernel
theorem dX10_freeLetterOf_26 : decode cX10_freeLetterOf 26 = .ok (.getfield 15, 3) := by decide +kernel
theorem dX10_freeLetterOf_29 : decode cX10_freeLetterOf 29 = .ok (.iload_n 2, 1) := by decide +kernel
theorem dX10_freeLetterOf_30 : decode cX10_freeLetterOf 30 = .ok (.iaload, 1) := by decide +kernel
theorem dX10_freeLetterOf_31 : decode cX10_freeLetterOf 31 = .ok (.invokevirtual 106, 3) := by decide +kernel
theorem dX10_freeLetterOf_34 : decode cX10_freeLetterOf 34 = .ok (.ireturn, 1) := by decide +kernel
theorem dX10_freeLetterOf_35 : decode cX10_freeLetterOf 35 = .ok (.iinc 2 1, 3) := by decide +kernel
theorem dX10_freeLetterOf_38 : decode cX10_freeLetterOf 38 = .ok (.goto (-36), 3) := by decide +kernel
theorem dX10_freeLetterOf_41 : decode cX10_freeLetterOf 41 = .ok (.iconst (-1), 1) := by decide +kernel
theorem dX10_freeLetterOf_42 : decode cX10_freeLetterOf 42 = .ok (.ireturn, 1) := by decide +kernel
theorem dX10_freeLetterIn_0 : decode cX10_freeLetterIn 0 = .ok (.iload_n 1, 1) := by decide +kernel
theorem dX10_freeLetterIn_1 : decode cX10_freeLetterIn 1 = .ok (.iconst 1, 1) := by decide +kernel
theorem dX10_freeLetterIn_2 : decode cX10_freeLetterIn 2 = .ok (.isub, 1) := by decide +kernel
theorem dX10_freeLetterIn_3 : decode cX10_freeLetterIn 3 = .ok (.istore_n 3, 1) := by decide +kernel
theorem dX10_freeLetterIn_4 : decode cX10_freeLetterIn 4 = .ok (.iload_n 3, 1) := by decide +kernel
theorem dX10_freeLetterIn_5 : decode cX10_freeLetterIn 5 = .ok (.ifCond .lt 46, 3) := by decide +kernel
theorem dX10_freeLetterIn_8 : decode cX10_freeLetterIn 8 = .ok (.iload_n 3, 1) := by decide +kernel
theorem dX10_freeLetterIn_9 : decode cX10_freeLetterIn 9 = .ok (.iconst 0, 1) := by decide +kernel
theorem dX10_freeLetterIn_10 : decode cX10_freeLetterIn 10 = .ok (.iconst 3, 1) := by decide +kernel
theorem dX10_freeLetterIn_11 : decode cX10_freeLetterIn 11 = .ok (.invokestatic 33, 3) := by decide +kernel
theorem dX10_freeLetterIn_14 : decode cX10_freeLetterIn 14 = .ok (.ifCond .eq 16, 3) := by decide +kernel
theorem dX10_freeLetterIn_17 : decode cX10_freeLetterIn 17 = .ok (.iload_n 2, 1) := by decide +kernel
theorem dX10_freeLetterIn_18 : decode cX10_freeLetterIn 18 = .ok (.getstatic 37, 3) := by decide +kernel
theorem dX10_freeLetterIn_21 : decode cX10_freeLetterIn 21 = .ok (.iload_n 3, 1) := by decide +kernel
theorem dX10_freeLetterIn_22 : decode cX10_freeLetterIn 22 = .ok (.iaload, 1) := by decide +kernel
theorem dX10_freeLetterIn_23 : decode cX10_freeLetterIn 23 = .ok (.idiv, 1) := by decide +kernel
theorem dX10_freeLetterIn_24 : decode cX10_freeLetterIn 24 = .ok (.bipush 6, 2) := by decide +kernel
theorem dX10_freeLetterIn_26 : decode cX10_freeLetterIn 26 = .ok (.irem, 1) := by decide +kernel
theorem dX10_freeLetterIn_27 : decode cX10_freeLetterIn 27 = .ok (.goto 4, 3) := by decide +kernel
theorem dX10_freeLetterIn_30 : decode cX10_freeLetterIn 30 = .ok (.iconst 0, 1) := by decide +kernel
theorem dX10_freeLetterIn_31 : decode cX10_freeLetterIn 31 = .ok (.istore 4, 2) := by decide +kernel
theorem dX10_freeLetterIn_33 : decode cX10_freeLetterIn 33 = .ok (.aload_n 0, 1) := by decide +kernel
theorem dX10_freeLetterIn_34 : decode cX10_freeLetterIn 34 = .ok (.iload 4, 2) := by decide +kernel
theorem dX10_freeLetterIn_36 : decode cX10_freeLetterIn 36 = .ok (.invokevirtual 102, 3) := by decide +kernel
theorem dX10_freeLetterIn_39 : decode cX10_freeLetterIn 39 = .ok (.ifCond .eq 6, 3) := by decide +kernel
theorem dX10_freeLetterIn_42 : decode cX10_freeLetterIn 42 = .ok (.iload 4, 2) := by decide +kernel
theorem dX10_freeLetterIn_44 : decode cX10_freeLetterIn 44 = .ok (.ireturn, 1) := by decide +kernel
theorem dX10_freeLetterIn_45 : decode cX10_freeLetterIn 45 = .ok (.iinc 3 (-1), 3) := by decide +kernel
theorem dX10_freeLetterIn_48 : decode cX10_freeLetterIn 48 = .ok (.goto (-44), 3) := by decide +kernel
theorem dX10_freeLetterIn_51 : decode cX10_freeLetterIn 51 = .ok (.iconst (-1), 1) := by decide +kernel
theorem dX10_freeLetterIn_52 : decode cX10_freeLetterIn 52 = .ok (.ireturn, 1) := by decide +kernel
theorem dX10_valueOf_0 : decode cX10_valueOf 0 = .ok (.iconst 0, 1) := by decide +kernel
theorem dX10_valueOf_1 : decode cX10_valueOf 1 = .ok (.istore_n 3, 1) := by decide +kernel
theorem dX10_valueOf_2 : decode cX10_valueOf 2 = .ok (.iconst 1, 1) := by decide +kernel
theorem dX10_valueOf_3 : decode cX10_valueOf 3 = .ok (.istore 4, 2) := by decide +kernel
theorem dX10_valueOf_5 : decode cX10_valueOf 5 = .ok (.iload_n 2, 1) := by decide +kernel
theorem dX10_valueOf_6 : decode cX10_valueOf 6 = .ok (.istore 5, 2) := by decide +kernel
theorem dX10_valueOf_8 : decode cX10_valueOf 8 = .ok (.iconst 0, 1) := by decide +kernel
theorem dX10_valueOf_9 : decode cX10_valueOf 9 = .ok (.istore 6, 2) := by decide +kernel
theorem dX10_valueOf_11 : decode cX10_valueOf 11 = .ok (.iload 6, 2) := by decide +kernel
theorem dX10_valueOf_13 : decode cX10_valueOf 13 = .ok (.iload_n 1, 1) := by decide +kernel
theorem dX10_valueOf_14 : decode cX10_valueOf 14 = .ok (.if_icmp .ge 36, 3) := by decide +kernel
theorem dX10_valueOf_17 : decode cX10_valueOf 17 = .ok (.iload_n 3, 1) := by decide +kernel
theorem dX10_valueOf_18 : decode cX10_valueOf 18 = .ok (.iload 4, 2) := by decide +kernel
theorem dX10_valueOf_20 : decode cX10_valueOf 20 = .ok (.aload_n 0, 1) := by decide +kernel
theorem dX10_valueOf_21 : decode cX10_valueOf 21 = .ok (.iload 5, 2) := by decide +kernel
theorem dX10_valueOf_23 : decode cX10_valueOf 23 = .ok (.bipush 6, 2) := by decide +kernel
theorem dX10_valueOf_25 : decode cX10_valueOf 25 = .ok (.irem, 1) := by decide +kernel
theorem dX10_valueOf_26 : decode cX10_valueOf 26 = .ok (.iaload, 1) := by decide +kernel
theorem dX10_valueOf_27 : decode cX10_valueOf 27 = .ok (.imul, 1) := by decide +kernel
theorem dX10_valueOf_28 : decode cX10_valueOf 28 = .ok (.iadd, 1) := by decide +kernel
theorem dX10_valueOf_29 : decode cX10_valueOf 29 = .ok (.istore_n 3, 1) := by decide +kernel
theorem dX10_valueOf_30 : decode cX10_valueOf 30 = .ok (.iload 5, 2) := by decide +kernel
theorem dX10_valueOf_32 : decode cX10_valueOf 32 = .ok (.bipush 6, 2) := by decide +kernel
theorem dX10_valueOf_34 : decode cX10_valueOf 34 = .ok (.idiv, 1) := by decide +kernel
theorem dX10_valueOf_35 : decode cX10_valueOf 35 = .ok (.istore 5, 2) := by decide +kernel
theorem dX10_valueOf_37 : decode cX10_valueOf 37 = .ok (.iload 4, 2) := by decide +kernel
theorem dX10_valueOf_39 : decode cX10_valueOf 39 = .ok (.bipush 10, 2) := by decide +kernel
theorem dX10_valueOf_41 : decode cX10_valueOf 41 = .ok (.imul, 1) := by decide +kernel
theorem dX10_valueOf_42 : decode cX10_valueOf 42 = .ok (.istore 4, 2) := by decide +kernel
theorem dX10_valueOf_44 : decode cX10_valueOf 44 = .ok (.iinc 6 1, 3) := by decide +kernel
theorem dX10_valueOf_47 : decode cX10_valueOf 47 = .ok (.goto (-36), 3) := by decide +kernel
theorem dX10_valueOf_50 : decode cX10_valueOf 50 = .ok (.iload_n 3, 1) := by decide +kernel
theorem dX10_valueOf_51 : decode cX10_valueOf 51 = .ok (.ireturn, 1) := by decide +kernel
theorem dX10_mix_0 : decode cX10_mix 0 = .ok (.lload_n 1, 1) := by decide +kernel
theorem dX10_mix_1 : decode cX10_mix 1 = .ok (.lstore_n 3, 1) := by decide +kernel
theorem dX10_mix_2 : decode cX10_mix 2 = .ok (.iconst 0, 1) := by decide +kernel
theorem dX10_mix_3 : decode cX10_mix 3 = .ok (.istore 5, 2) := by decide +kernel
theorem dX10_mix_5 : decode cX10_mix 5 = .ok (.iload 5, 2) := by decide +kernel
theorem dX10_mix_7 : decode cX10_mix 7 = .ok (.aload_n 0, 1) := by decide +kernel
theorem dX10_mix_8 : decode cX10_mix 8 = .ok (.getfield 40, 3) := by decide +kernel
theorem dX10_mix_11 : decode cX10_mix 11 = .ok (.if_icmp .ge 69, 3) := by decide +kernel
theorem dX10_mix_14 : decode cX10_mix 14 = .ok (.ldc2_w 110, 3) := by decide +kernel
theorem dX10_mix_17 : decode cX10_mix 17 = .ok (.lload_n 3, 1) := by decide +kernel
theorem dX10_mix_18 : decode cX10_mix 18 = .ok (.lmul, 1) := by decide +kernel
theorem dX10_mix_19 : decode cX10_mix 19 = .ok (.aload_n 0, 1) := by decide +kernel
theorem dX10_mix_20 : decode cX10_mix 20 = .ok (.getfield 11, 3) := by decide +kernel
theorem dX10_mix_23 : decode cX10_mix 23 = .ok (.iload 5, 2) := by decide +kernel
theorem dX10_mix_25 : decode cX10_mix 25 = .ok (.iaload, 1) := by decide +kernel
theorem dX10_mix_26 : decode cX10_mix 26 = .ok (.i2l, 1) := by decide +kernel
theorem dX10_mix_27 : decode cX10_mix 27 = .ok (.ladd, 1) := by decide +kernel
theorem dX10_mix_28 : decode cX10_mix 28 = .ok (.lstore_n 3, 1) := by decide +kernel
theorem dX10_mix_29 : decode cX10_mix 29 = .ok (.ldc2_w 110, 3) := by decide +kernel
theorem dX10_mix_32 : decode cX10_mix 32 = .ok (.lload_n 3, 1) := by decide +kernel
theorem dX10_mix_33 : decode cX10_mix 33 = .ok (.lmul, 1) := by decide +kernel
theorem dX10_mix_34 : decode cX10_mix 34 = .ok (.aload_n 0, 1) := by decide +kernel
theorem dX10_mix_35 : decode cX10_mix 35 = .ok (.getfield 15, 3) := by decide +kernel
theorem dX10_mix_38 : decode cX10_mix 38 = .ok (.iload 5, 2) := by decide +kernel
theorem dX10_mix_40 : decode cX10_mix 40 = .ok (.iaload, 1) := by decide +kernel
theorem dX10_mix_41 : decode cX10_mix 41 = .ok (.i2l, 1) := by decide +kernel
theorem dX10_mix_42 : decode cX10_mix 42 = .ok (.ladd, 1) := by decide +kernel
theorem dX10_mix_43 : decode cX10_mix 43 = .ok (.lstore_n 3, 1) := by decide +kernel
theorem dX10_mix_44 : decode cX10_mix 44 = .ok (.ldc2_w 110, 3) := by decide +kernel
theorem dX10_mix_47 : decode cX10_mix 47 = .ok (.lload_n 3, 1) := by decide +kernel
theorem dX10_mix_48 : decode cX10_mix 48 = .ok (.lmul, 1) := by decide +kernel
theorem dX10_mix_49 : decode cX10_mix 49 = .ok (.aload_n 0, 1) := by decide +kernel
theorem dX10_mix_50 : decode cX10_mix 50 = .ok (.getfield 18, 3) := by decide +kernel
theorem dX10_mix_53 : decode cX10_mix 53 = .ok (.iload 5, 2) := by decide +kernel
theorem dX10_mix_55 : decode cX10_mix 55 = .ok (.iaload, 1) := by decide +kernel
theorem dX10_mix_56 : decode cX10_mix 56 = .ok (.i2l, 1) := by decide +kernel
theorem dX10_mix_57 : decode cX10_mix 57 = .ok (.ladd, 1) := by decide +kernel
theorem dX10_mix_58 : decode cX10_mix 58 = .ok (.lstore_n 3, 1) := by decide +kernel
theorem dX10_mix_59 : decode cX10_mix 59 = .ok (.ldc2_w 110, 3) := by decide +kernel
theorem dX10_mix_62 : decode cX10_mix 62 = .ok (.lload_n 3, 1) := by decide +kernel
theorem dX10_mix_63 : decode cX10_mix 63 = .ok (.lmul, 1) := by decide +kernel
theorem dX10_mix_64 : decode cX10_mix 64 = .ok (.aload_n 0, 1) := by decide +kernel
theorem dX10_mix_65 : decode cX10_mix 65 = .ok (.getfield 21, 3) := by decide +kernel
theorem dX10_mix_68 : decode cX10_mix 68 = .ok (.iload 5, 2) := by decide +kernel
theorem dX10_mix_70 : decode cX10_mix 70 = .ok (.iaload, 1) := by decide +kernel
theorem dX10_mix_71 : decode cX10_mix 71 = .ok (.i2l, 1) := by decide +kernel
theorem dX10_mix_72 : decode cX10_mix 72 = .ok (.ladd, 1) := by decide +kernel
theorem dX10_mix_73 : decode cX10_mix 73 = .ok (.lstore_n 3, 1) := by decide +kernel
theorem dX10_mix_74 : decode cX10_mix 74 = .ok (.iinc 5 1, 3) := by decide +kernel
theorem dX10_mix_77 : decode cX10_mix 77 = .ok (.goto (-72), 3) := by decide +kernel
theorem dX10_mix_80 : decode cX10_mix 80 = .ok (.lload_n 3, 1) := by decide +kernel
theorem dX10_mix_81 : decode cX10_mix 81 = .ok (.lreturn, 1) := by decide +kernel
theorem dX11_init_0 : decode cX11_init 0 = .ok (.aload_n 0, 1) := by decide +kernel
theorem dX11_init_1 : decode cX11_init 1 = .ok (.invokespecial 1, 3) := by decide +kernel
theorem dX11_init_4 : decode cX11_init 4 = .ok (.aload_n 0, 1) := by decide +kernel
theorem dX11_init_5 : decode cX11_init 5 = .ok (.new 7, 3) := by decide +kernel
theorem dX11_init_8 : decode cX11_init 8 = .ok (.dup, 1) := by decide +kernel
theorem dX11_init_9 : decode cX11_init 9 = .ok (.invokespecial 9, 3) := by decide +kernel
theorem dX11_init_12 : decode cX11_init 12 = .ok (.putfield 10, 3) := by decide +kernel
theorem dX11_init_15 : decode cX11_init 15 = .ok (.aload_n 0, 1) := by decide +kernel
theorem dX11_init_16 : decode cX11_init 16 = .ok (.new 16, 3) := by decide +kernel
theorem dX11_init_19 : decode cX11_init 19 = .ok (.dup, 1) := by decide +kernel
theorem dX11_init_20 : decode cX11_init 20 = .ok (.invokespecial 18, 3) := by decide +kernel
theorem dX11_init_23 : decode cX11_init 23 = .ok (.putfield 19, 3) := by decide +kernel
theorem dX11_init_26 : decode cX11_init 26 = .ok (.aload_n 0, 1) := by decide +kernel
theorem dX11_init_27 : decode cX11_init 27 = .ok (.new 23, 3) := by decide +kernel
theorem dX11_init_30 : decode cX11_init 30 = .ok (.dup, 1) := by decide +kernel
theorem dX11_init_31 : decode cX11_init 31 = .ok (.invokespecial 25, 3) := by decide +kernel
theorem dX11_init_34 : decode cX11_init 34 = .ok (.putfield 26, 3) := by decide +kernel
theorem dX11_init_37 : decode cX11_init 37 = .ok (.aload_n 0, 1) := by decide +kernel
theorem dX11_init_38 : decode cX11_init 38 = .ok (.new 30, 3) := by decide +kernel
theorem dX11_init_41 : decode cX11_init 41 = .ok (.dup, 1) := by decide +kernel
theorem dX11_init_42 : decode cX11_init 42 = .ok (.invokespecial 32, 3) := by decide +kernel
theorem dX11_init_45 : decode cX11_init 45 = .ok (.putfield 33, 3) := by decide +kernel
theorem dX11_init_48 : decode cX11_init 48 = .ok (.aload_n 0, 1) := by decide +kernel
theorem dX11_init_49 : decode cX11_init 49 = .ok (.new 37, 3) := by decide +kernel
theorem dX11_init_52 : decode cX11_init 52 = .ok (.dup, 1) := by decide +kernel
theorem dX11_init_53 : decode cX11_init 53 = .ok (.invokespecial 39, 3) := by decide +kernel
theorem dX11_init_56 : decode cX11_init 56 = .ok (.putfield 40, 3) := by decide +kernel
theorem dX11_init_59 : decode cX11_init 59 = .ok (.aload_n 0, 1) := by decide +kernel
theorem dX11_init_60 : decode cX11_init 60 = .ok (.new 44, 3) := by decide +kernel
theorem dX11_init_63 : decode cX11_init 63 = .ok (.dup, 1) := by decide +kernel
theorem dX11_init_64 : decode cX11_init 64 = .ok (.invokespecial 46, 3) := by decide +kernel
theorem dX11_init_67 : decode cX11_init 67 = .ok (.putfield 47, 3) := by decide +kernel
theorem dX11_init_70 : decode cX11_init 70 = .ok (.aload_n 0, 1) := by decide +kernel
theorem dX11_init_71 : decode cX11_init 71 = .ok (.new 51, 3) := by decide +kernel
theorem dX11_init_74 : decode cX11_init 74 = .ok (.dup, 1) := by decide +kernel
theorem dX11_init_75 : decode cX11_init 75 = .ok (.invokespecial 53, 3) := by decide +kernel
theorem dX11_init_78 : decode cX11_init 78 = .ok (.putfield 54, 3) := by decide +kernel
theorem dX11_init_81 : decode cX11_init 81 = .ok (.aload_n 0, 1) := by decide +kernel
theorem dX11_init_82 : decode cX11_init 82 = .ok (.new 58, 3) := by decide +kernel
theorem dX11_init_85 : decode cX11_init 85 = .ok (.dup, 1) := by decide +kernel
theorem dX11_init_86 : decode cX11_init 86 = .ok (.invokespecial 60, 3) := by decide +kernel
theorem dX11_init_89 : decode cX11_init 89 = .ok (.putfield 61, 3) := by decide +kernel
theorem dX11_init_92 : decode cX11_init 92 = .ok (.aload_n 0, 1) := by decide +kernel
theorem dX11_init_93 : decode cX11_init 93 = .ok (.new 65, 3) := by decide +kernel
theorem dX11_init_96 : decode cX11_init 96 = .ok (.dup, 1) := by decide +kernel
theorem dX11_init_97 : decode cX11_init 97 = .ok (.invokespecial 67, 3) := by decide +kernel
theorem dX11_init_100 : decode cX11_init 100 = .ok (.putfield 68, 3) := by decide +kernel
theorem dX11_init_103 : decode cX11_init 103 = .ok (.aload_n 0, 1) := by decide +kernel
theorem dX11_init_104 : decode cX11_init 104 = .ok (.new 72, 3) := by decide +kernel
theorem dX11_init_107 : decode cX11_init 107 = .ok (.dup, 1) := by decide +kernel
theorem dX11_init_108 : decode cX11_init 108 = .ok (.invokespecial 74, 3) := by decide +kernel
theorem dX11_init_111 : decode cX11_init 111 = .ok (.putfield 75, 3) := by decide +kernel
theorem dX11_init_114 : decode cX11_init 114 = .ok (.aload_n 0, 1) := by decide +kernel
theorem dX11_init_115 : decode cX11_init 115 = .ok (.sipush 150, 3) := by decide +kernel
theorem dX11_init_118 : decode cX11_init 118 = .ok (.putfield 79, 3) := by decide +kernel
theorem dX11_init_121 : decode cX11_init 121 = .ok (.return_, 1) := by decide +kernel
theorem dX11_find_0 : decode cX11_find 0 = .ok (.iload_n 1, 1) := by decide +kernel
theorem dX11_find_1 : decode cX11_find 1 = .ok (.iconst 0, 1) := by decide +kernel
theorem dX11_find_2 : decode cX11_find 2 = .ok (.iconst 5, 1) := by decide +kernel
theorem dX11_find_3 : decode cX11_find 3 = .ok (.invokestatic 83, 3) := by decide +kernel
theorem dX11_find_6 : decode cX11_find 6 = .ok (.ifCond .eq 45, 3) := by decide +kernel
theorem dX11_find_9 : decode cX11_find 9 = .ok (.iload_n 2, 1) := by decide +kernel
theorem dX11_find_10 : decode cX11_find 10 = .ok (.iconst 0, 1) := by decide +kernel
theorem dX11_find_11 : decode cX11_find 11 = .ok (.sipush 9999, 3) := by decide +kernel
theorem dX11_find_14 : decode cX11_find 14 = .ok (.invokestatic 83, 3) := by decide +kernel
theorem dX11_find_17 : decode cX11_find 17 = .ok (.ifCond .eq 34, 3) := by decide +kernel
theorem dX11_find_20 : decode cX11_find 20 = .ok (.iload_n 3, 1) := by decide +kernel
theorem dX11_find_21 : decode cX11_find 21 = .ok (.iconst (-1), 1) := by decide +kernel
theorem dX11_find_22 : decode cX11_find 22 = .ok (.bipush 29, 2) := by decide +kernel
theorem dX11_find_24 : decode cX11_find 24 = .ok (.invokestatic 83, 3) := by decide +kernel
theorem dX11_find_27 : decode cX11_find 27 = .ok (.ifCond .eq 24, 3) := by decide +kernel
theorem dX11_find_30 : decode cX11_find 30 = .ok (.iload 4, 2) := by decide +kernel
theorem dX11_find_32 : decode cX11_find 32 = .ok (.iconst (-1), 1) := by decide +kernel
theorem dX11_find_33 : decode cX11_find 33 = .ok (.bipush 19, 2) := by decide +kernel
theorem dX11_find_35 : decode cX11_find 35 = .ok (.invokestatic 83, 3) := by decide +kernel
theorem dX11_find_38 : decode cX11_find 38 = .ok (.ifCond .eq 13, 3) := by decide +kernel
theorem dX11_find_41 : decode cX11_find 41 = .ok (.iload 5, 2) := by decide +kernel
theorem dX11_find_43 : decode cX11_find 43 = .ok (.iconst 0, 1) := by decide +kernel
theorem dX11_find_44 : decode cX11_find 44 = .ok (.iconst 3, 1) := by decide +kernel
theorem dX11_find_45 : decode cX11_find 45 = .ok (.invokestatic 83, 3) := by decide +kernel
theorem dX11_find_48 : decode cX11_find 48 = .ok (.ifCond .ne 6, 3) := by decide +kernel
theorem dX11_find_51 : decode cX11_find 51 = .ok (.bipush (-2), 2) := by decide +kernel
theorem dX11_find_53 : decode cX11_find 53 = .ok (.ireturn, 1) := by decide +kernel
theorem dX11_find_54 : decode cX11_find 54 = .ok (.aload_n 0, 1) := by decide +kernel
theorem dX11_find_55 : decode cX11_find 55 = .ok (.getfield 10, 3) := by decide +kernel
theorem dX11_find_58 : decode cX11_find 58 = .ok (.iload_n 1, 1) := by decide +kernel
theorem dX11_find_59 : decode cX11_find 59 = .ok (.iload_n 2, 1) := by decide +kernel
theorem dX11_find_60 : decode cX11_find 60 = .ok (.iload_n 3, 1) := by decide +kernel
theorem dX11_find_61 : decode cX11_find 61 = .ok (.iload 4, 2) := by decide +kernel
theorem dX11_find_63 : decode cX11_find 63 = .ok (.iload 5, 2) := by decide +kernel
theorem dX11_find_65 : decode cX11_find 65 = .ok (.invokevirtual 87, 3) := by decide +kernel
theorem dX11_find_68 : decode cX11_find 68 = .ok (.ireturn, 1) := by decide +kernel
theorem dX11_doubt_0 : decode cX11_doubt 0 = .ok (.iload_n 1, 1) := by decide +kernel
theorem dX11_doubt_1 : decode cX11_doubt 1 = .ok (.iconst 0, 1) := by decide +kernel
theorem dX11_doubt_2 : decode cX11_doubt 2 = .ok (.aload_n 0, 1) := by decide +kernel
theorem dX11_doubt_3 : decode cX11_doubt 3 = .ok (.getfield 10, 3) := by decide +kernel
theorem dX11_doubt_6 : decode cX11_doubt 6 = .ok (.getfield 91, 3) := by decide +kernel
theorem dX11_doubt_9 : decode cX11_doubt 9 = .ok (.iconst 1, 1) := by decide +kernel
theorem dX11_doubt_10 : decode cX11_doubt 10 = .ok (.isub, 1) := by decide +kernel
theorem dX11_doubt_11 : decode cX11_doubt 11 = .ok (.invokestatic 83, 3) := by decide +kernel
theorem dX11_doubt_14 : decode cX11_doubt 14 = .ok (.ifCond .ne 6, 3) := by decide +kernel
theorem dX11_doubt_17 : decode cX11_doubt 17 = .ok (.bipush (-2), 2) := by decide +kernel
theorem dX11_doubt_19 : decode cX11_doubt 19 = .ok (.ireturn, 1) := by decide +kernel
theorem dX11_doubt_20 : decode cX11_doubt 20 = .ok (.aload_n 0, 1) := by decide +kernel
theorem dX11_doubt_21 : decode cX11_doubt 21 = .ok (.getfield 10, 3) := by decide +kernel
theorem dX11_doubt_24 : decode cX11_doubt 24 = .ok (.getfield 94, 3) := by decide +kernel
theorem dX11_doubt_27 : decode cX11_doubt 27 = .ok (.iload_n 1, 1) := by decide +kernel
theorem dX11_doubt_28 : decode cX11_doubt 28 = .ok (.baload, 1) := by decide +kernel
theorem dX11_doubt_29 : decode cX11_doubt 29 = .ok (.iload_n 2, 1) := by decide +kernel
theorem dX11_doubt_30 : decode cX11_doubt 30 = .ok (.if_icmp .ne 6, 3) := by decide +kernel
theorem dX11_doubt_33 : decode cX11_doubt 33 = .ok (.bipush (-3), 2) := by decide +kernel
theorem dX11_doubt_35 : decode cX11_doubt 35 = .ok (.ireturn, 1) := by decide +kernel
theorem dX11_doubt_36 : decode cX11_doubt 36 = .ok (.aload_n 0, 1) := by decide +kernel
theorem dX11_doubt_37 : decode cX11_doubt 37 = .ok (.getfield 10, 3) := by decide +kernel
theorem dX11_doubt_40 : decode cX11_doubt 40 = .ok (.getfield 94, 3) := by decide +kernel
theorem dX11_doubt_43 : decode cX11_doubt 43 = .ok (.iload_n 1, 1) := by decide +kernel
theorem dX11_doubt_44 : decode cX11_doubt 44 = .ok (.iload_n 2, 1) := by decide +kernel
theorem dX11_doubt_45 : decode cX11_doubt 45 = .ok (.bastore, 1) := by decide +kernel
theorem dX11_doubt_46 : decode cX11_doubt 46 = .ok (.iconst 1, 1) := by decide +kernel
theorem dX11_doubt_47 : decode cX11_doubt 47 = .ok (.ireturn, 1) := by decide +kernel
theorem dX11_numbers_0 : decode cX11_numbers 0 = .ok (.iload_n 1, 1) := by decide +kernel
theorem dX11_numbers_1 : decode cX11_numbers 1 = .ok (.iconst 0, 1) := by decide +kernel
theorem dX11_numbers_2 : decode cX11_numbers 2 = .ok (.iconst 5, 1) := by decide +kernel
theorem dX11_numbers_3 : decode cX11_numbers 3 = .ok (.invokestatic 83, 3) := by decide +kernel
theorem dX11_numbers_6 : decode cX11_numbers 6 = .ok (.ifCond .eq 12, 3) := by decide +kernel
theorem dX11_numbers_9 : decode cX11_numbers 9 = .ok (.iload_n 2, 1) := by decide +kernel
theorem dX11_numbers_10 : decode cX11_numbers 10 = .ok (.iconst 0, 1) := by decide +kernel
theorem dX11_numbers_11 : decode cX11_numbers 11 = .ok (.iconst 2, 1) := by decide +kernel
theorem dX11_numbers_12 : decode cX11_numbers 12 = .ok (.invokestatic 83, 3) := by decide +kernel
theorem dX11_numbers_15 : decode cX11_numbers 15 = .ok (.ifCond .ne 6, 3) := by decide +kernel
theorem dX11_numbers_18 : decode cX11_numbers 18 = .ok (.bipush (-2), 2) := by decide +kernel
theorem dX11_numbers_20 : decode cX11_numbers 20 = .ok (.ireturn, 1) := by decide +kernel
theorem dX11_numbers_21 : decode cX11_numbers 21 = .ok (.aload_n 0, 1) := by decide +kernel
theorem dX11_numbers_22 : decode cX11_numbers 22 = .ok (.getfield 10, 3) := by decide +kernel
theorem dX11_numbers_25 : decode cX11_numbers 25 = .ok (.iload_n 1, 1) := by decide +kernel
theorem dX11_numbers_26 : decode cX11_numbers 26 = .ok (.iconst (-1), 1) := by decide +kernel
