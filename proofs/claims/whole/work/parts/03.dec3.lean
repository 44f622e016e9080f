theorem dX12_mouldsOf_60 : decode cX12_mouldsOf 60 = .ok (.iconst 1, 1) := by decide +kernel
theorem dX12_mouldsOf_61 : decode cX12_mouldsOf 61 = .ok (.goto 4, 3) := by decide +kernel
theorem dX12_mouldsOf_64 : decode cX12_mouldsOf 64 = .ok (.iconst 0, 1) := by decide +kernel
theorem dX12_mouldsOf_65 : decode cX12_mouldsOf 65 = .ok (.iadd, 1) := by decide +kernel
theorem dX12_mouldsOf_66 : decode cX12_mouldsOf 66 = .ok (.istore 5, 2) := by decide +kernel
theorem dX12_mouldsOf_68 : decode cX12_mouldsOf 68 = .ok (.iload_n 3, 1) := by decide +kernel
theorem dX12_mouldsOf_69 : decode cX12_mouldsOf 69 = .ok (.iconst 1, 1) := by decide +kernel
theorem dX12_mouldsOf_70 : decode cX12_mouldsOf 70 = .ok (.aload_n 0, 1) := by decide +kernel
theorem dX12_mouldsOf_71 : decode cX12_mouldsOf 71 = .ok (.iload 6, 2) := by decide +kernel
theorem dX12_mouldsOf_73 : decode cX12_mouldsOf 73 = .ok (.iconst 3, 1) := by decide +kernel
theorem dX12_mouldsOf_74 : decode cX12_mouldsOf 74 = .ok (.invokevirtual 122, 3) := by decide +kernel
theorem dX12_mouldsOf_77 : decode cX12_mouldsOf 77 = .ok (.ishl, 1) := by decide +kernel
theorem dX12_mouldsOf_78 : decode cX12_mouldsOf 78 = .ok (.ior, 1) := by decide +kernel
theorem dX12_mouldsOf_79 : decode cX12_mouldsOf 79 = .ok (.istore_n 3, 1) := by decide +kernel
theorem dX12_mouldsOf_80 : decode cX12_mouldsOf 80 = .ok (.iinc 6 1, 3) := by decide +kernel
theorem dX12_mouldsOf_83 : decode cX12_mouldsOf 83 = .ok (.goto (-72), 3) := by decide +kernel
theorem dX12_mouldsOf_86 : decode cX12_mouldsOf 86 = .ok (.iload_n 2, 1) := by decide +kernel
theorem dX12_mouldsOf_87 : decode cX12_mouldsOf 87 = .ok (.ifCond .ne 8, 3) := by decide +kernel
theorem dX12_mouldsOf_90 : decode cX12_mouldsOf 90 = .ok (.iload 4, 2) := by decide +kernel
theorem dX12_mouldsOf_92 : decode cX12_mouldsOf 92 = .ok (.goto 5, 3) := by decide +kernel
theorem dX12_mouldsOf_95 : decode cX12_mouldsOf 95 = .ok (.iload 5, 2) := by decide +kernel
theorem dX12_mouldsOf_97 : decode cX12_mouldsOf 97 = .ok (.ireturn, 1) := by decide +kernel
theorem dX12_moulds_0 : decode cX12_moulds 0 = .ok (.iload_n 1, 1) := by decide +kernel
theorem dX12_moulds_1 : decode cX12_moulds 1 = .ok (.invokestatic 103, 3) := by decide +kernel
theorem dX12_moulds_4 : decode cX12_moulds 4 = .ok (.ifCond .eq 22, 3) := by decide +kernel
theorem dX12_moulds_7 : decode cX12_moulds 7 = .ok (.iload_n 2, 1) := by decide +kernel
theorem dX12_moulds_8 : decode cX12_moulds 8 = .ok (.i2l, 1) := by decide +kernel
theorem dX12_moulds_9 : decode cX12_moulds 9 = .ok (.lconst 0, 1) := by decide +kernel
theorem dX12_moulds_10 : decode cX12_moulds 10 = .ok (.lconst 1, 1) := by decide +kernel
theorem dX12_moulds_11 : decode cX12_moulds 11 = .ok (.invokestatic 97, 3) := by decide +kernel
theorem dX12_moulds_14 : decode cX12_moulds 14 = .ok (.ifCond .eq 12, 3) := by decide +kernel
theorem dX12_moulds_17 : decode cX12_moulds 17 = .ok (.aload_n 0, 1) := by decide +kernel
theorem dX12_moulds_18 : decode cX12_moulds 18 = .ok (.iload_n 1, 1) := by decide +kernel
theorem dX12_moulds_19 : decode cX12_moulds 19 = .ok (.iload_n 2, 1) := by decide +kernel
theorem dX12_moulds_20 : decode cX12_moulds 20 = .ok (.invokevirtual 202, 3) := by decide +kernel
theorem dX12_moulds_23 : decode cX12_moulds 23 = .ok (.goto 5, 3) := by decide +kernel
theorem dX12_moulds_26 : decode cX12_moulds 26 = .ok (.bipush (-2), 2) := by decide +kernel
theorem dX12_moulds_28 : decode cX12_moulds 28 = .ok (.ireturn, 1) := by decide +kernel
theorem dX12_weighsMoulds_0 : decode cX12_weighsMoulds 0 = .ok (.aload_n 0, 1) := by decide +kernel
theorem dX12_weighsMoulds_1 : decode cX12_weighsMoulds 1 = .ok (.iload_n 1, 1) := by decide +kernel
theorem dX12_weighsMoulds_2 : decode cX12_weighsMoulds 2 = .ok (.iload_n 2, 1) := by decide +kernel
theorem dX12_weighsMoulds_3 : decode cX12_weighsMoulds 3 = .ok (.iload 4, 2) := by decide +kernel
theorem dX12_weighsMoulds_5 : decode cX12_weighsMoulds 5 = .ok (.if_icmp .lt 14, 3) := by decide +kernel
theorem dX12_weighsMoulds_8 : decode cX12_weighsMoulds 8 = .ok (.iload_n 2, 1) := by decide +kernel
theorem dX12_weighsMoulds_9 : decode cX12_weighsMoulds 9 = .ok (.iconst 1, 1) := by decide +kernel
theorem dX12_weighsMoulds_10 : decode cX12_weighsMoulds 10 = .ok (.if_icmp .lt 9, 3) := by decide +kernel
theorem dX12_weighsMoulds_13 : decode cX12_weighsMoulds 13 = .ok (.iload_n 2, 1) := by decide +kernel
theorem dX12_weighsMoulds_14 : decode cX12_weighsMoulds 14 = .ok (.bipush 20, 2) := by decide +kernel
theorem dX12_weighsMoulds_16 : decode cX12_weighsMoulds 16 = .ok (.if_icmp .le 7, 3) := by decide +kernel
theorem dX12_weighsMoulds_19 : decode cX12_weighsMoulds 19 = .ok (.lconst 0, 1) := by decide +kernel
theorem dX12_weighsMoulds_20 : decode cX12_weighsMoulds 20 = .ok (.goto 4, 3) := by decide +kernel
theorem dX12_weighsMoulds_23 : decode cX12_weighsMoulds 23 = .ok (.lconst 1, 1) := by decide +kernel
theorem dX12_weighsMoulds_24 : decode cX12_weighsMoulds 24 = .ok (.invokevirtual 63, 3) := by decide +kernel
theorem dX12_weighsMoulds_27 : decode cX12_weighsMoulds 27 = .ok (.iconst 0, 1) := by decide +kernel
theorem dX12_weighsMoulds_28 : decode cX12_weighsMoulds 28 = .ok (.istore 5, 2) := by decide +kernel
theorem dX12_weighsMoulds_30 : decode cX12_weighsMoulds 30 = .ok (.iload 5, 2) := by decide +kernel
theorem dX12_weighsMoulds_32 : decode cX12_weighsMoulds 32 = .ok (.iload 4, 2) := by decide +kernel
theorem dX12_weighsMoulds_34 : decode cX12_weighsMoulds 34 = .ok (.if_icmp .ge 27, 3) := by decide +kernel
theorem dX12_weighsMoulds_37 : decode cX12_weighsMoulds 37 = .ok (.aload_n 0, 1) := by decide +kernel
theorem dX12_weighsMoulds_38 : decode cX12_weighsMoulds 38 = .ok (.getfield 13, 3) := by decide +kernel
theorem dX12_weighsMoulds_41 : decode cX12_weighsMoulds 41 = .ok (.iload_n 1, 1) := by decide +kernel
theorem dX12_weighsMoulds_42 : decode cX12_weighsMoulds 42 = .ok (.iaload, 1) := by decide +kernel
theorem dX12_weighsMoulds_43 : decode cX12_weighsMoulds 43 = .ok (.ifCond .le 18, 3) := by decide +kernel
theorem dX12_weighsMoulds_46 : decode cX12_weighsMoulds 46 = .ok (.aload_n 0, 1) := by decide +kernel
theorem dX12_weighsMoulds_47 : decode cX12_weighsMoulds 47 = .ok (.iload_n 1, 1) := by decide +kernel
theorem dX12_weighsMoulds_48 : decode cX12_weighsMoulds 48 = .ok (.iload_n 2, 1) := by decide +kernel
theorem dX12_weighsMoulds_49 : decode cX12_weighsMoulds 49 = .ok (.iload 5, 2) := by decide +kernel
theorem dX12_weighsMoulds_51 : decode cX12_weighsMoulds 51 = .ok (.isub, 1) := by decide +kernel
theorem dX12_weighsMoulds_52 : decode cX12_weighsMoulds 52 = .ok (.invokevirtual 159, 3) := by decide +kernel
theorem dX12_weighsMoulds_55 : decode cX12_weighsMoulds 55 = .ok (.iinc 5 1, 3) := by decide +kernel
theorem dX12_weighsMoulds_58 : decode cX12_weighsMoulds 58 = .ok (.goto (-28), 3) := by decide +kernel
theorem dX12_weighsMoulds_61 : decode cX12_weighsMoulds 61 = .ok (.iconst 0, 1) := by decide +kernel
theorem dX12_weighsMoulds_62 : decode cX12_weighsMoulds 62 = .ok (.istore 5, 2) := by decide +kernel
theorem dX12_weighsMoulds_64 : decode cX12_weighsMoulds 64 = .ok (.iload 5, 2) := by decide +kernel
theorem dX12_weighsMoulds_66 : decode cX12_weighsMoulds 66 = .ok (.iload_n 3, 1) := by decide +kernel
theorem dX12_weighsMoulds_67 : decode cX12_weighsMoulds 67 = .ok (.if_icmp .ge 27, 3) := by decide +kernel
theorem dX12_weighsMoulds_70 : decode cX12_weighsMoulds 70 = .ok (.aload_n 0, 1) := by decide +kernel
theorem dX12_weighsMoulds_71 : decode cX12_weighsMoulds 71 = .ok (.getfield 13, 3) := by decide +kernel
theorem dX12_weighsMoulds_74 : decode cX12_weighsMoulds 74 = .ok (.iload_n 1, 1) := by decide +kernel
theorem dX12_weighsMoulds_75 : decode cX12_weighsMoulds 75 = .ok (.iaload, 1) := by decide +kernel
theorem dX12_weighsMoulds_76 : decode cX12_weighsMoulds 76 = .ok (.ifCond .le 18, 3) := by decide +kernel
theorem dX12_weighsMoulds_79 : decode cX12_weighsMoulds 79 = .ok (.aload_n 0, 1) := by decide +kernel
theorem dX12_weighsMoulds_80 : decode cX12_weighsMoulds 80 = .ok (.iload_n 1, 1) := by decide +kernel
theorem dX12_weighsMoulds_81 : decode cX12_weighsMoulds 81 = .ok (.ldc 205, 2) := by decide +kernel
theorem dX12_weighsMoulds_83 : decode cX12_weighsMoulds 83 = .ok (.iload_n 2, 1) := by decide +kernel
theorem dX12_weighsMoulds_84 : decode cX12_weighsMoulds 84 = .ok (.idiv, 1) := by decide +kernel
theorem dX12_weighsMoulds_85 : decode cX12_weighsMoulds 85 = .ok (.invokevirtual 159, 3) := by decide +kernel
theorem dX12_weighsMoulds_88 : decode cX12_weighsMoulds 88 = .ok (.iinc 5 1, 3) := by decide +kernel
theorem dX12_weighsMoulds_91 : decode cX12_weighsMoulds 91 = .ok (.goto (-27), 3) := by decide +kernel
theorem dX12_weighsMoulds_94 : decode cX12_weighsMoulds 94 = .ok (.return_, 1) := by decide +kernel
theorem dX12_thereAre_0 : decode cX12_thereAre 0 = .ok (.iload_n 1, 1) := by decide +kernel
theorem dX12_thereAre_1 : decode cX12_thereAre 1 = .ok (.invokestatic 103, 3) := by decide +kernel
theorem dX12_thereAre_4 : decode cX12_thereAre 4 = .ok (.ifCond .eq 15, 3) := by decide +kernel
theorem dX12_thereAre_7 : decode cX12_thereAre 7 = .ok (.iload_n 2, 1) := by decide +kernel
theorem dX12_thereAre_8 : decode cX12_thereAre 8 = .ok (.i2l, 1) := by decide +kernel
theorem dX12_thereAre_9 : decode cX12_thereAre 9 = .ok (.lconst 0, 1) := by decide +kernel
theorem dX12_thereAre_10 : decode cX12_thereAre 10 = .ok (.ldc2_w 206, 3) := by decide +kernel
theorem dX12_thereAre_13 : decode cX12_thereAre 13 = .ok (.invokestatic 97, 3) := by decide +kernel
theorem dX12_thereAre_16 : decode cX12_thereAre 16 = .ok (.ifCond .ne 6, 3) := by decide +kernel
theorem dX12_thereAre_19 : decode cX12_thereAre 19 = .ok (.bipush (-2), 2) := by decide +kernel
theorem dX12_thereAre_21 : decode cX12_thereAre 21 = .ok (.ireturn, 1) := by decide +kernel
theorem dX12_thereAre_22 : decode cX12_thereAre 22 = .ok (.aload_n 0, 1) := by decide +kernel
theorem dX12_thereAre_23 : decode cX12_thereAre 23 = .ok (.iload_n 1, 1) := by decide +kernel
theorem dX12_thereAre_24 : decode cX12_thereAre 24 = .ok (.iconst 0, 1) := by decide +kernel
theorem dX12_thereAre_25 : decode cX12_thereAre 25 = .ok (.invokevirtual 202, 3) := by decide +kernel
theorem dX12_thereAre_28 : decode cX12_thereAre 28 = .ok (.istore_n 3, 1) := by decide +kernel
theorem dX12_thereAre_29 : decode cX12_thereAre 29 = .ok (.aload_n 0, 1) := by decide +kernel
theorem dX12_thereAre_30 : decode cX12_thereAre 30 = .ok (.iload_n 1, 1) := by decide +kernel
theorem dX12_thereAre_31 : decode cX12_thereAre 31 = .ok (.iconst 1, 1) := by decide +kernel
theorem dX12_thereAre_32 : decode cX12_thereAre 32 = .ok (.invokevirtual 202, 3) := by decide +kernel
theorem dX12_thereAre_35 : decode cX12_thereAre 35 = .ok (.istore 4, 2) := by decide +kernel
theorem dX12_thereAre_37 : decode cX12_thereAre 37 = .ok (.aload_n 0, 1) := by decide +kernel
theorem dX12_thereAre_38 : decode cX12_thereAre 38 = .ok (.iconst 1, 1) := by decide +kernel
theorem dX12_thereAre_39 : decode cX12_thereAre 39 = .ok (.lconst 0, 1) := by decide +kernel
theorem dX12_thereAre_40 : decode cX12_thereAre 40 = .ok (.invokevirtual 63, 3) := by decide +kernel
theorem dX12_thereAre_43 : decode cX12_thereAre 43 = .ok (.iconst 1, 1) := by decide +kernel
theorem dX12_thereAre_44 : decode cX12_thereAre 44 = .ok (.istore 5, 2) := by decide +kernel
theorem dX12_thereAre_46 : decode cX12_thereAre 46 = .ok (.iload 5, 2) := by decide +kernel
theorem dX12_thereAre_48 : decode cX12_thereAre 48 = .ok (.bipush 20, 2) := by decide +kernel
theorem dX12_thereAre_50 : decode cX12_thereAre 50 = .ok (.if_icmp .gt 25, 3) := by decide +kernel
theorem dX12_thereAre_53 : decode cX12_thereAre 53 = .ok (.aload_n 0, 1) := by decide +kernel
theorem dX12_thereAre_54 : decode cX12_thereAre 54 = .ok (.iconst 2, 1) := by decide +kernel
theorem dX12_thereAre_55 : decode cX12_thereAre 55 = .ok (.iload 5, 2) := by decide +kernel
theorem dX12_thereAre_57 : decode cX12_thereAre 57 = .ok (.iload_n 3, 1) := by decide +kernel
theorem dX12_thereAre_58 : decode cX12_thereAre 58 = .ok (.iload 4, 2) := by decide +kernel
theorem dX12_thereAre_60 : decode cX12_thereAre 60 = .ok (.invokevirtual 208, 3) := by decide +kernel
theorem dX12_thereAre_63 : decode cX12_thereAre 63 = .ok (.aload_n 0, 1) := by decide +kernel
theorem dX12_thereAre_64 : decode cX12_thereAre 64 = .ok (.iconst 1, 1) := by decide +kernel
theorem dX12_thereAre_65 : decode cX12_thereAre 65 = .ok (.iconst 2, 1) := by decide +kernel
theorem dX12_thereAre_66 : decode cX12_thereAre 66 = .ok (.invokevirtual 169, 3) := by decide +kernel
theorem dX12_thereAre_69 : decode cX12_thereAre 69 = .ok (.iinc 5 1, 3) := by decide +kernel
theorem dX12_thereAre_72 : decode cX12_thereAre 72 = .ok (.goto (-26), 3) := by decide +kernel
theorem dX12_thereAre_75 : decode cX12_thereAre 75 = .ok (.aload_n 0, 1) := by decide +kernel
theorem dX12_thereAre_76 : decode cX12_thereAre 76 = .ok (.iconst 0, 1) := by decide +kernel
theorem dX12_thereAre_77 : decode cX12_thereAre 77 = .ok (.iload_n 2, 1) := by decide +kernel
theorem dX12_thereAre_78 : decode cX12_thereAre 78 = .ok (.iload_n 3, 1) := by decide +kernel
theorem dX12_thereAre_79 : decode cX12_thereAre 79 = .ok (.iload 4, 2) := by decide +kernel
theorem dX12_thereAre_81 : decode cX12_thereAre 81 = .ok (.invokevirtual 208, 3) := by decide +kernel
theorem dX12_thereAre_84 : decode cX12_thereAre 84 = .ok (.aload_n 0, 1) := by decide +kernel
theorem dX12_thereAre_85 : decode cX12_thereAre 85 = .ok (.invokevirtual 94, 3) := by decide +kernel
theorem dX12_thereAre_88 : decode cX12_thereAre 88 = .ok (.iconst 1, 1) := by decide +kernel
theorem dX12_thereAre_89 : decode cX12_thereAre 89 = .ok (.ireturn, 1) := by decide +kernel
theorem dX12_can_0 : decode cX12_can 0 = .ok (.iload_n 1, 1) := by decide +kernel
theorem dX12_can_1 : decode cX12_can 1 = .ok (.i2l, 1) := by decide +kernel
theorem dX12_can_2 : decode cX12_can 2 = .ok (.lconst 1, 1) := by decide +kernel
theorem dX12_can_3 : decode cX12_can 3 = .ok (.ldc2_w 212, 3) := by decide +kernel
theorem dX12_can_6 : decode cX12_can 6 = .ok (.invokestatic 97, 3) := by decide +kernel
theorem dX12_can_9 : decode cX12_can 9 = .ok (.ifCond .eq 53, 3) := by decide +kernel
theorem dX12_can_12 : decode cX12_can 12 = .ok (.iload_n 2, 1) := by decide +kernel
theorem dX12_can_13 : decode cX12_can 13 = .ok (.i2l, 1) := by decide +kernel
theorem dX12_can_14 : decode cX12_can 14 = .ok (.lconst 1, 1) := by decide +kernel
theorem dX12_can_15 : decode cX12_can 15 = .ok (.ldc2_w 214, 3) := by decide +kernel
theorem dX12_can_18 : decode cX12_can 18 = .ok (.invokestatic 97, 3) := by decide +kernel
theorem dX12_can_21 : decode cX12_can 21 = .ok (.ifCond .eq 41, 3) := by decide +kernel
theorem dX12_can_24 : decode cX12_can 24 = .ok (.iload_n 3, 1) := by decide +kernel
theorem dX12_can_25 : decode cX12_can 25 = .ok (.i2l, 1) := by decide +kernel
theorem dX12_can_26 : decode cX12_can 26 = .ok (.lconst 1, 1) := by decide +kernel
theorem dX12_can_27 : decode cX12_can 27 = .ok (.ldc2_w 216, 3) := by decide +kernel
theorem dX12_can_30 : decode cX12_can 30 = .ok (.invokestatic 97, 3) := by decide +kernel
theorem dX12_can_33 : decode cX12_can 33 = .ok (.ifCond .eq 29, 3) := by decide +kernel
theorem dX12_can_36 : decode cX12_can 36 = .ok (.iload 4, 2) := by decide +kernel
theorem dX12_can_38 : decode cX12_can 38 = .ok (.i2l, 1) := by decide +kernel
theorem dX12_can_39 : decode cX12_can 39 = .ok (.lconst 1, 1) := by decide +kernel
theorem dX12_can_40 : decode cX12_can 40 = .ok (.ldc2_w 143, 3) := by decide +kernel
theorem dX12_can_43 : decode cX12_can 43 = .ok (.invokestatic 97, 3) := by decide +kernel
theorem dX12_can_46 : decode cX12_can 46 = .ok (.ifCond .eq 16, 3) := by decide +kernel
theorem dX12_can_49 : decode cX12_can 49 = .ok (.iload 5, 2) := by decide +kernel
theorem dX12_can_51 : decode cX12_can 51 = .ok (.i2l, 1) := by decide +kernel
theorem dX12_can_52 : decode cX12_can 52 = .ok (.lconst 0, 1) := by decide +kernel
theorem dX12_can_53 : decode cX12_can 53 = .ok (.ldc2_w 143, 3) := by decide +kernel
theorem dX12_can_56 : decode cX12_can 56 = .ok (.invokestatic 97, 3) := by decide +kernel
theorem dX12_can_59 : decode cX12_can 59 = .ok (.ifCond .ne 6, 3) := by decide +kernel
theorem dX12_can_62 : decode cX12_can 62 = .ok (.bipush (-2), 2) := by decide +kernel
theorem dX12_can_64 : decode cX12_can 64 = .ok (.ireturn, 1) := by decide +kernel
theorem dX12_can_65 : decode cX12_can 65 = .ok (.iload_n 1, 1) := by decide +kernel
theorem dX12_can_66 : decode cX12_can 66 = .ok (.iload_n 2, 1) := by decide +kernel
theorem dX12_can_67 : decode cX12_can 67 = .ok (.imul, 1) := by decide +kernel
theorem dX12_can_68 : decode cX12_can 68 = .ok (.iload_n 3, 1) := by decide +kernel
theorem dX12_can_69 : decode cX12_can 69 = .ok (.imul, 1) := by decide +kernel
theorem dX12_can_70 : decode cX12_can 70 = .ok (.iload 5, 2) := by decide +kernel
theorem dX12_can_72 : decode cX12_can 72 = .ok (.imul, 1) := by decide +kernel
theorem dX12_can_73 : decode cX12_can 73 = .ok (.iload 4, 2) := by decide +kernel
theorem dX12_can_75 : decode cX12_can 75 = .ok (.idiv, 1) := by decide +kernel
theorem dX12_can_76 : decode cX12_can 76 = .ok (.ireturn, 1) := by decide +kernel
theorem dX12_areLetters_0 : decode cX12_areLetters 0 = .ok (.iconst 1, 1) := by decide +kernel
theorem dX12_areLetters_1 : decode cX12_areLetters 1 = .ok (.istore_n 2, 1) := by decide +kernel
theorem dX12_areLetters_2 : decode cX12_areLetters 2 = .ok (.iconst 0, 1) := by decide +kernel
theorem dX12_areLetters_3 : decode cX12_areLetters 3 = .ok (.istore_n 3, 1) := by decide +kernel
theorem dX12_areLetters_4 : decode cX12_areLetters 4 = .ok (.iload_n 3, 1) := by decide +kernel
theorem dX12_areLetters_5 : decode cX12_areLetters 5 = .ok (.iload_n 0, 1) := by decide +kernel
theorem dX12_areLetters_6 : decode cX12_areLetters 6 = .ok (.if_icmp .ge 19, 3) := by decide +kernel
theorem dX12_areLetters_9 : decode cX12_areLetters 9 = .ok (.iload_n 0, 1) := by decide +kernel
theorem dX12_areLetters_10 : decode cX12_areLetters 10 = .ok (.iconst 5, 1) := by decide +kernel
theorem dX12_areLetters_11 : decode cX12_areLetters 11 = .ok (.if_icmp .ge 14, 3) := by decide +kernel
theorem dX12_areLetters_14 : decode cX12_areLetters 14 = .ok (.iload_n 2, 1) := by decide +kernel
theorem dX12_areLetters_15 : decode cX12_areLetters 15 = .ok (.bipush 6, 2) := by decide +kernel
theorem dX12_areLetters_17 : decode cX12_areLetters 17 = .ok (.imul, 1) := by decide +kernel
theorem dX12_areLetters_18 : decode cX12_areLetters 18 = .ok (.istore_n 2, 1) := by decide +kernel
theorem dX12_areLetters_19 : decode cX12_areLetters 19 = .ok (.iinc 3 1, 3) := by decide +kernel
theorem dX12_areLetters_22 : decode cX12_areLetters 22 = .ok (.goto (-18), 3) := by decide +kernel
theorem dX12_areLetters_25 : decode cX12_areLetters 25 = .ok (.iload_n 0, 1) := by decide +kernel
theorem dX12_areLetters_26 : decode cX12_areLetters 26 = .ok (.i2l, 1) := by decide +kernel
theorem dX12_areLetters_27 : decode cX12_areLetters 27 = .ok (.lconst 1, 1) := by decide +kernel
theorem dX12_areLetters_28 : decode cX12_areLetters 28 = .ok (.ldc2_w 218, 3) := by decide +kernel
theorem dX12_areLetters_31 : decode cX12_areLetters 31 = .ok (.invokestatic 97, 3) := by decide +kernel
theorem dX12_areLetters_34 : decode cX12_areLetters 34 = .ok (.ifCond .eq 20, 3) := by decide +kernel
theorem dX12_areLetters_37 : decode cX12_areLetters 37 = .ok (.iload_n 1, 1) := by decide +kernel
theorem dX12_areLetters_38 : decode cX12_areLetters 38 = .ok (.i2l, 1) := by decide +kernel
theorem dX12_areLetters_39 : decode cX12_areLetters 39 = .ok (.lconst 0, 1) := by decide +kernel
theorem dX12_areLetters_40 : decode cX12_areLetters 40 = .ok (.iload_n 2, 1) := by decide +kernel
theorem dX12_areLetters_41 : decode cX12_areLetters 41 = .ok (.iconst 1, 1) := by decide +kernel
theorem dX12_areLetters_42 : decode cX12_areLetters 42 = .ok (.isub, 1) := by decide +kernel
theorem dX12_areLetters_43 : decode cX12_areLetters 43 = .ok (.i2l, 1) := by decide +kernel
theorem dX12_areLetters_44 : decode cX12_areLetters 44 = .ok (.invokestatic 97, 3) := by decide +kernel
theorem dX12_areLetters_47 : decode cX12_areLetters 47 = .ok (.ifCond .eq 7, 3) := by decide +kernel
theorem dX12_areLetters_50 : decode cX12_areLetters 50 = .ok (.iconst 1, 1) := by decide +kernel
theorem dX12_areLetters_51 : decode cX12_areLetters 51 = .ok (.goto 4, 3) := by decide +kernel
theorem dX12_areLetters_54 : decode cX12_areLetters 54 = .ok (.iconst 0, 1) := by decide +kernel
theorem dX12_areLetters_55 : decode cX12_areLetters 55 = .ok (.ireturn, 1) := by decide +kernel
theorem dX12_word_0 : decode cX12_word 0 = .ok (.iload_n 1, 1) := by decide +kernel
theorem dX12_word_1 : decode cX12_word 1 = .ok (.iload_n 2, 1) := by decide +kernel
theorem dX12_word_2 : decode cX12_word 2 = .ok (.invokestatic 220, 3) := by decide +kernel
theorem dX12_word_5 : decode cX12_word 5 = .ok (.ifCond .eq 28, 3) := by decide +kernel
theorem dX12_word_8 : decode cX12_word 8 = .ok (.iload_n 3, 1) := by decide +kernel
theorem dX12_word_9 : decode cX12_word 9 = .ok (.i2l, 1) := by decide +kernel
theorem dX12_word_10 : decode cX12_word 10 = .ok (.lconst 0, 1) := by decide +kernel
theorem dX12_word_11 : decode cX12_word 11 = .ok (.iload 4, 2) := by decide +kernel
theorem dX12_word_13 : decode cX12_word 13 = .ok (.i2l, 1) := by decide +kernel
theorem dX12_word_14 : decode cX12_word 14 = .ok (.invokestatic 97, 3) := by decide +kernel
theorem dX12_word_17 : decode cX12_word 17 = .ok (.ifCond .eq 16, 3) := by decide +kernel
theorem dX12_word_20 : decode cX12_word 20 = .ok (.iload 4, 2) := by decide +kernel
theorem dX12_word_22 : decode cX12_word 22 = .ok (.i2l, 1) := by decide +kernel
theorem dX12_word_23 : decode cX12_word 23 = .ok (.lconst 0, 1) := by decide +kernel
theorem dX12_word_24 : decode cX12_word 24 = .ok (.ldc2_w 106, 3) := by decide +kernel
theorem dX12_word_27 : decode cX12_word 27 = .ok (.invokestatic 97, 3) := by decide +kernel
theorem dX12_word_30 : decode cX12_word 30 = .ok (.ifCond .ne 6, 3) := by decide +kernel
theorem dX12_word_33 : decode cX12_word 33 = .ok (.bipush (-2), 2) := by decide +kernel
theorem dX12_word_35 : decode cX12_word 35 = .ok (.ireturn, 1) := by decide +kernel
theorem dX12_word_36 : decode cX12_word 36 = .ok (.aload_n 0, 1) := by decide +kernel
theorem dX12_word_37 : decode cX12_word 37 = .ok (.getfield 223, 3) := by decide +kernel
theorem dX12_word_40 : decode cX12_word 40 = .ok (.bipush 12, 2) := by decide +kernel
theorem dX12_word_42 : decode cX12_word 42 = .ok (.if_icmp .ne 6, 3) := by decide +kernel
theorem dX12_word_45 : decode cX12_word 45 = .ok (.bipush (-4), 2) := by decide +kernel
theorem dX12_word_47 : decode cX12_word 47 = .ok (.ireturn, 1) := by decide +kernel
theorem dX12_word_48 : decode cX12_word 48 = .ok (.aload_n 0, 1) := by decide +kernel
theorem dX12_word_49 : decode cX12_word 49 = .ok (.getfield 28, 3) := by decide +kernel
theorem dX12_word_52 : decode cX12_word 52 = .ok (.iconst 4, 1) := by decide +kernel
theorem dX12_word_53 : decode cX12_word 53 = .ok (.aload_n 0, 1) := by decide +kernel
theorem dX12_word_54 : decode cX12_word 54 = .ok (.getfield 223, 3) := by decide +kernel
theorem dX12_word_57 : decode cX12_word 57 = .ok (.imul, 1) := by decide +kernel
theorem dX12_word_58 : decode cX12_word 58 = .ok (.iload_n 1, 1) := by decide +kernel
theorem dX12_word_59 : decode cX12_word 59 = .ok (.iastore, 1) := by decide +kernel
theorem dX12_word_60 : decode cX12_word 60 = .ok (.aload_n 0, 1) := by decide +kernel
theorem dX12_word_61 : decode cX12_word 61 = .ok (.getfield 28, 3) := by decide +kernel
theorem dX12_word_64 : decode cX12_word 64 = .ok (.iconst 4, 1) := by decide +kernel
theorem dX12_word_65 : decode cX12_word 65 = .ok (.aload_n 0, 1) := by decide +kernel
theorem dX12_word_66 : decode cX12_word 66 = .ok (.getfield 223, 3) := by decide +kernel
theorem dX12_word_69 : decode cX12_word 69 = .ok (.imul, 1) := by decide +kernel
theorem dX12_word_70 : decode cX12_word 70 = .ok (.iconst 1, 1) := by decide +kernel
theorem dX12_word_71 : decode cX12_word 71 = .ok (.iadd, 1) := by decide +kernel
theorem dX12_word_72 : decode cX12_word 72 = .ok (.iload_n 2, 1) := by decide +kernel
theorem dX12_word_73 : decode cX12_word 73 = .ok (.iastore, 1) := by decide +kernel
theorem dX12_word_74 : decode cX12_word 74 = .ok (.aload_n 0, 1) := by decide +kernel
theorem dX12_word_75 : decode cX12_word 75 = .ok (.getfield 28, 3) := by decide +kernel
theorem dX12_word_78 : decode cX12_word 78 = .ok (.iconst 4, 1) := by decide +kernel
theorem dX12_word_79 : decode cX12_word 79 = .ok (.aload_n 0, 1) := by decide +kernel
theorem dX12_word_80 : decode cX12_word 80 = .ok (.getfield 223, 3) := by decide +kernel
theorem dX12_word_83 : decode cX12_word 83 = .ok (.imul, 1) := by decide +kernel
theorem dX12_word_84 : decode cX12_word 84 = .ok (.iconst 2, 1) := by decide +kernel
theorem dX12_word_85 : decode cX12_word 85 = .ok (.iadd, 1) := by decide +kernel
theorem dX12_word_86 : decode cX12_word 86 = .ok (.iload_n 3, 1) := by decide +kernel
theorem dX12_word_87 : decode cX12_word 87 = .ok (.iastore, 1) := by decide +kernel
theorem dX12_word_88 : decode cX12_word 88 = .ok (.aload_n 0, 1) := by decide +kernel
theorem dX12_word_89 : decode cX12_word 89 = .ok (.getfield 28, 3) := by decide +kernel
theorem dX12_word_92 : decode cX12_word 92 = .ok (.iconst 4, 1) := by decide +kernel
theorem dX12_word_93 : decode cX12_word 93 = .ok (.aload_n 0, 1) := by decide +kernel
theorem dX12_word_94 : decode cX12_word 94 = .ok (.getfield 223, 3) := by decide +kernel
theorem dX12_word_97 : decode cX12_word 97 = .ok (.imul, 1) := by decide +kernel
theorem dX12_word_98 : decode cX12_word 98 = .ok (.iconst 3, 1) := by decide +kernel
theorem dX12_word_99 : decode cX12_word 99 = .ok (.iadd, 1) := by decide +kernel
theorem dX12_word_100 : decode cX12_word 100 = .ok (.iload 4, 2) := by decide +kernel
theorem dX12_word_102 : decode cX12_word 102 = .ok (.iastore, 1) := by decide +kernel
theorem dX12_word_103 : decode cX12_word 103 = .ok (.aload_n 0, 1) := by decide +kernel
theorem dX12_word_104 : decode cX12_word 104 = .ok (.dup, 1) := by decide +kernel
theorem dX12_word_105 : decode cX12_word 105 = .ok (.getfield 223, 3) := by decide +kernel
theorem dX12_word_108 : decode cX12_word 108 = .ok (.iconst 1, 1) := by decide +kernel
theorem dX12_word_109 : decode cX12_word 109 = .ok (.iadd, 1) := by decide +kernel
theorem dX12_word_110 : decode cX12_word 110 = .ok (.putfield 223, 3) := by decide +kernel
theorem dX12_word_113 : decode cX12_word 113 = .ok (.aload_n 0, 1) := by decide +kernel
theorem dX12_word_114 : decode cX12_word 114 = .ok (.getfield 223, 3) := by decide +kernel
theorem dX12_word_117 : decode cX12_word 117 = .ok (.iconst 1, 1) := by decide +kernel
theorem dX12_word_118 : decode cX12_word 118 = .ok (.isub, 1) := by decide +kernel
theorem dX12_word_119 : decode cX12_word 119 = .ok (.ireturn, 1) := by decide +kernel
theorem dX12_wordless_0 : decode cX12_wordless 0 = .ok (.aload_n 0, 1) := by decide +kernel
theorem dX12_wordless_1 : decode cX12_wordless 1 = .ok (.getfield 223, 3) := by decide +kernel
theorem dX12_wordless_4 : decode cX12_wordless 4 = .ok (.istore_n 1, 1) := by decide +kernel
theorem dX12_wordless_5 : decode cX12_wordless 5 = .ok (.aload_n 0, 1) := by decide +kernel
theorem dX12_wordless_6 : decode cX12_wordless 6 = .ok (.iconst 0, 1) := by decide +kernel
theorem dX12_wordless_7 : decode cX12_wordless 7 = .ok (.putfield 223, 3) := by decide +kernel
theorem dX12_wordless_10 : decode cX12_wordless 10 = .ok (.iload_n 1, 1) := by decide +kernel
theorem dX12_wordless_11 : decode cX12_wordless 11 = .ok (.ireturn, 1) := by decide +kernel
theorem dX12_valueOf_0 : decode cX12_valueOf 0 = .ok (.iconst 0, 1) := by decide +kernel
theorem dX12_valueOf_1 : decode cX12_valueOf 1 = .ok (.istore_n 3, 1) := by decide +kernel
theorem dX12_valueOf_2 : decode cX12_valueOf 2 = .ok (.iconst 1, 1) := by decide +kernel
theorem dX12_valueOf_3 : decode cX12_valueOf 3 = .ok (.istore 4, 2) := by decide +kernel
theorem dX12_valueOf_5 : decode cX12_valueOf 5 = .ok (.iload_n 2, 1) := by decide +kernel
theorem dX12_valueOf_6 : decode cX12_valueOf 6 = .ok (.istore 5, 2) := by decide +kernel
theorem dX12_valueOf_8 : decode cX12_valueOf 8 = .ok (.iconst 0, 1) := by decide +kernel
theorem dX12_valueOf_9 : decode cX12_valueOf 9 = .ok (.istore 6, 2) := by decide +kernel
theorem dX12_valueOf_11 : decode cX12_valueOf 11 = .ok (.iload 6, 2) := by decide +kernel
theorem dX12_valueOf_13 : decode cX12_valueOf 13 = .ok (.iload_n 1, 1) := by decide +kernel
theorem dX12_valueOf_14 : decode cX12_valueOf 14 = .ok (.if_icmp .ge 39, 3) := by decide +kernel
theorem dX12_valueOf_17 : decode cX12_valueOf 17 = .ok (.iload_n 3, 1) := by decide +kernel
theorem dX12_valueOf_18 : decode cX12_valueOf 18 = .ok (.iload 4, 2) := by decide +kernel
theorem dX12_valueOf_20 : decode cX12_valueOf 20 = .ok (.aload_n 0, 1) := by decide +kernel
theorem dX12_valueOf_21 : decode cX12_valueOf 21 = .ok (.getfield 31, 3) := by decide +kernel
theorem dX12_valueOf_24 : decode cX12_valueOf 24 = .ok (.iload 5, 2) := by decide +kernel
theorem dX12_valueOf_26 : decode cX12_valueOf 26 = .ok (.bipush 6, 2) := by decide +kernel
theorem dX12_valueOf_28 : decode cX12_valueOf 28 = .ok (.irem, 1) := by decide +kernel
theorem dX12_valueOf_29 : decode cX12_valueOf 29 = .ok (.iaload, 1) := by decide +kernel
theorem dX12_valueOf_30 : decode cX12_valueOf 30 = .ok (.imul, 1) := by decide +kernel
theorem dX12_valueOf_31 : decode cX12_valueOf 31 = .ok (.iadd, 1) := by decide +kernel
theorem dX12_valueOf_32 : decode cX12_valueOf 32 = .ok (.istore_n 3, 1) := by decide +kernel
theorem dX12_valueOf_33 : decode cX12_valueOf 33 = .ok (.iload 5, 2) := by decide +kernel
theorem dX12_valueOf_35 : decode cX12_valueOf 35 = .ok (.bipush 6, 2) := by decide +kernel
theorem dX12_valueOf_37 : decode cX12_valueOf 37 = .ok (.idiv, 1) := by decide +kernel
theorem dX12_valueOf_38 : decode cX12_valueOf 38 = .ok (.istore 5, 2) := by decide +kernel
theorem dX12_valueOf_40 : decode cX12_valueOf 40 = .ok (.iload 4, 2) := by decide +kernel
theorem dX12_valueOf_42 : decode cX12_valueOf 42 = .ok (.bipush 10, 2) := by decide +kernel
theorem dX12_valueOf_44 : decode cX12_valueOf 44 = .ok (.imul, 1) := by decide +kernel
theorem dX12_valueOf_45 : decode cX12_valueOf 45 = .ok (.istore 4, 2) := by decide +kernel
theorem dX12_valueOf_47 : decode cX12_valueOf 47 = .ok (.iinc 6 1, 3) := by decide +kernel
theorem dX12_valueOf_50 : decode cX12_valueOf 50 = .ok (.goto (-39), 3) := by decide +kernel
theorem dX12_valueOf_53 : decode cX12_valueOf 53 = .ok (.iload_n 3, 1) := by decide +kernel
theorem dX12_valueOf_54 : decode cX12_valueOf 54 = .ok (.ireturn, 1) := by decide +kernel
theorem dX12_holds_0 : decode cX12_holds 0 = .ok (.iconst 0, 1) := by decide +kernel
theorem dX12_holds_1 : decode cX12_holds 1 = .ok (.istore_n 1, 1) := by decide +kernel
theorem dX12_holds_2 : decode cX12_holds 2 = .ok (.iload_n 1, 1) := by decide +kernel
theorem dX12_holds_3 : decode cX12_holds 3 = .ok (.aload_n 0, 1) := by decide +kernel
theorem dX12_holds_4 : decode cX12_holds 4 = .ok (.getfield 223, 3) := by decide +kernel
theorem dX12_holds_7 : decode cX12_holds 7 = .ok (.if_icmp .ge 62, 3) := by decide +kernel
theorem dX12_holds_10 : decode cX12_holds 10 = .ok (.aload_n 0, 1) := by decide +kernel
theorem dX12_holds_11 : decode cX12_holds 11 = .ok (.aload_n 0, 1) := by decide +kernel
theorem dX12_holds_12 : decode cX12_holds 12 = .ok (.getfield 28, 3) := by decide +kernel
theorem dX12_holds_15 : decode cX12_holds 15 = .ok (.iconst 4, 1) := by decide +kernel
theorem dX12_holds_16 : decode cX12_holds 16 = .ok (.iload_n 1, 1) := by decide +kernel
theorem dX12_holds_17 : decode cX12_holds 17 = .ok (.imul, 1) := by decide +kernel
theorem dX12_holds_18 : decode cX12_holds 18 = .ok (.iaload, 1) := by decide +kernel
theorem dX12_holds_19 : decode cX12_holds 19 = .ok (.aload_n 0, 1) := by decide +kernel
theorem dX12_holds_20 : decode cX12_holds 20 = .ok (.getfield 28, 3) := by decide +kernel
theorem dX12_holds_23 : decode cX12_holds 23 = .ok (.iconst 4, 1) := by decide +kernel
theorem dX12_holds_24 : decode cX12_holds 24 = .ok (.iload_n 1, 1) := by decide +kernel
theorem dX12_holds_25 : decode cX12_holds 25 = .ok (.imul, 1) := by decide +kernel
theorem dX12_holds_26 : decode cX12_holds 26 = .ok (.iconst 1, 1) := by decide +kernel
theorem dX12_holds_27 : decode cX12_holds 27 = .ok (.iadd, 1) := by decide +kernel
theorem dX12_holds_28 : decode cX12_holds 28 = .ok (.iaload, 1) := by decide +kernel
theorem dX12_holds_29 : decode cX12_holds 29 = .ok (.invokevirtual 226, 3) := by decide +kernel
theorem dX12_holds_32 : decode cX12_holds 32 = .ok (.i2l, 1) := by decide +kernel
theorem dX12_holds_33 : decode cX12_holds 33 = .ok (.aload_n 0, 1) := by decide +kernel
theorem dX12_holds_34 : decode cX12_holds 34 = .ok (.getfield 28, 3) := by decide +kernel
theorem dX12_holds_37 : decode cX12_holds 37 = .ok (.iconst 4, 1) := by decide +kernel
theorem dX12_holds_38 : decode cX12_holds 38 = .ok (.iload_n 1, 1) := by decide +kernel
theorem dX12_holds_39 : decode cX12_holds 39 = .ok (.imul, 1) := by decide +kernel
theorem dX12_holds_40 : decode cX12_holds 40 = .ok (.iconst 2, 1) := by decide +kernel
theorem dX12_holds_41 : decode cX12_holds 41 = .ok (.iadd, 1) := by decide +kernel
theorem dX12_holds_42 : decode cX12_holds 42 = .ok (.iaload, 1) := by decide +kernel
theorem dX12_holds_43 : decode cX12_holds 43 = .ok (.i2l, 1) := by decide +kernel
theorem dX12_holds_44 : decode cX12_holds 44 = .ok (.aload_n 0, 1) := by decide +kernel
theorem dX12_holds_45 : decode cX12_holds 45 = .ok (.getfield 28, 3) := by decide +kernel
theorem dX12_holds_48 : decode cX12_holds 48 = .ok (.iconst 4, 1) := by decide +kernel
theorem dX12_holds_49 : decode cX12_holds 49 = .ok (.iload_n 1, 1) := by decide +kernel
theorem dX12_holds_50 : decode cX12_holds 50 = .ok (.imul, 1) := by decide +kernel
theorem dX12_holds_51 : decode cX12_holds 51 = .ok (.iconst 3, 1) := by decide +kernel
theorem dX12_holds_52 : decode cX12_holds 52 = .ok (.iadd, 1) := by decide +kernel
theorem dX12_holds_53 : decode cX12_holds 53 = .ok (.iaload, 1) := by decide +kernel
theorem dX12_holds_54 : decode cX12_holds 54 = .ok (.i2l, 1) := by decide +kernel
theorem dX12_holds_55 : decode cX12_holds 55 = .ok (.invokestatic 97, 3) := by decide +kernel
theorem dX12_holds_58 : decode cX12_holds 58 = .ok (.ifCond .ne 5, 3) := by decide +kernel
theorem dX12_holds_61 : decode cX12_holds 61 = .ok (.iconst 0, 1) := by decide +kernel
theorem dX12_holds_62 : decode cX12_holds 62 = .ok (.ireturn, 1) := by decide +kernel
theorem dX12_holds_63 : decode cX12_holds 63 = .ok (.iinc 1 1, 3) := by decide +kernel
theorem dX12_holds_66 : decode cX12_holds 66 = .ok (.goto (-64), 3) := by decide +kernel
theorem dX12_holds_69 : decode cX12_holds 69 = .ok (.iconst 1, 1) := by decide +kernel
theorem dX12_holds_70 : decode cX12_holds 70 = .ok (.ireturn, 1) := by decide +kernel
theorem dX12_notes_0 : decode cX12_notes 0 = .ok (.aload_n 0, 1) := by decide +kernel
theorem dX12_notes_1 : decode cX12_notes 1 = .ok (.dup, 1) := by decide +kernel
theorem dX12_notes_2 : decode cX12_notes 2 = .ok (.getfield 229, 3) := by decide +kernel
theorem dX12_notes_5 : decode cX12_notes 5 = .ok (.iconst 1, 1) := by decide +kernel
theorem dX12_notes_6 : decode cX12_notes 6 = .ok (.iadd, 1) := by decide +kernel
theorem dX12_notes_7 : decode cX12_notes 7 = .ok (.putfield 229, 3) := by decide +kernel
theorem dX12_notes_10 : decode cX12_notes 10 = .ok (.iconst 0, 1) := by decide +kernel
theorem dX12_notes_11 : decode cX12_notes 11 = .ok (.istore_n 1, 1) := by decide +kernel
theorem dX12_notes_12 : decode cX12_notes 12 = .ok (.iload_n 1, 1) := by decide +kernel
theorem dX12_notes_13 : decode cX12_notes 13 = .ok (.bipush 6, 2) := by decide +kernel
theorem dX12_notes_15 : decode cX12_notes 15 = .ok (.if_icmp .ge 26, 3) := by decide +kernel
theorem dX12_notes_18 : decode cX12_notes 18 = .ok (.aload_n 0, 1) := by decide +kernel
theorem dX12_notes_19 : decode cX12_notes 19 = .ok (.getfield 34, 3) := by decide +kernel
theorem dX12_notes_22 : decode cX12_notes 22 = .ok (.iload_n 1, 1) := by decide +kernel
theorem dX12_notes_23 : decode cX12_notes 23 = .ok (.dup2, 1) := by decide +kernel
theorem dX12_notes_24 : decode cX12_notes 24 = .ok (.iaload, 1) := by decide +kernel
theorem dX12_notes_25 : decode cX12_notes 25 = .ok (.iconst 1, 1) := by decide +kernel
theorem dX12_notes_26 : decode cX12_notes 26 = .ok (.aload_n 0, 1) := by decide +kernel
theorem dX12_notes_27 : decode cX12_notes 27 = .ok (.getfield 31, 3) := by decide +kernel
theorem dX12_notes_30 : decode cX12_notes 30 = .ok (.iload_n 1, 1) := by decide +kernel
theorem dX12_notes_31 : decode cX12_notes 31 = .ok (.iaload, 1) := by decide +kernel
theorem dX12_notes_32 : decode cX12_notes 32 = .ok (.ishl, 1) := by decide +kernel
theorem dX12_notes_33 : decode cX12_notes 33 = .ok (.ior, 1) := by decide +kernel
theorem dX12_notes_34 : decode cX12_notes 34 = .ok (.iastore, 1) := by decide +kernel
theorem dX12_notes_35 : decode cX12_notes 35 = .ok (.iinc 1 1, 3) := by decide +kernel
theorem dX12_notes_38 : decode cX12_notes 38 = .ok (.goto (-26), 3) := by decide +kernel
theorem dX12_notes_41 : decode cX12_notes 41 = .ok (.aload_n 0, 1) := by decide +kernel
theorem dX12_notes_42 : decode cX12_notes 42 = .ok (.aload_n 0, 1) := by decide +kernel
theorem dX12_notes_43 : decode cX12_notes 43 = .ok (.getfield 232, 3) := by decide +kernel
theorem dX12_notes_46 : decode cX12_notes 46 = .ok (.aload_n 0, 1) := by decide +kernel
theorem dX12_notes_47 : decode cX12_notes 47 = .ok (.getfield 235, 3) := by decide +kernel
theorem dX12_notes_50 : decode cX12_notes 50 = .ok (.invokevirtual 226, 3) := by decide +kernel
theorem dX12_notes_53 : decode cX12_notes 53 = .ok (.istore_n 1, 1) := by decide +kernel
theorem dX12_notes_54 : decode cX12_notes 54 = .ok (.aload_n 0, 1) := by decide +kernel
theorem dX12_notes_55 : decode cX12_notes 55 = .ok (.aload_n 0, 1) := by decide +kernel
theorem dX12_notes_56 : decode cX12_notes 56 = .ok (.getfield 229, 3) := by decide +kernel
theorem dX12_notes_59 : decode cX12_notes 59 = .ok (.iconst 1, 1) := by decide +kernel
theorem dX12_notes_60 : decode cX12_notes 60 = .ok (.if_icmp .eq 11, 3) := by decide +kernel
theorem dX12_notes_63 : decode cX12_notes 63 = .ok (.iload_n 1, 1) := by decide +kernel
theorem dX12_notes_64 : decode cX12_notes 64 = .ok (.aload_n 0, 1) := by decide +kernel
theorem dX12_notes_65 : decode cX12_notes 65 = .ok (.getfield 238, 3) := by decide +kernel
theorem dX12_notes_68 : decode cX12_notes 68 = .ok (.if_icmp .ge 7, 3) := by decide +kernel
theorem dX12_notes_71 : decode cX12_notes 71 = .ok (.iload_n 1, 1) := by decide +kernel
theorem dX12_notes_72 : decode cX12_notes 72 = .ok (.goto 7, 3) := by decide +kernel
theorem dX12_notes_75 : decode cX12_notes 75 = .ok (.aload_n 0, 1) := by decide +kernel
theorem dX12_notes_76 : decode cX12_notes 76 = .ok (.getfield 238, 3) := by decide +kernel
theorem dX12_notes_79 : decode cX12_notes 79 = .ok (.putfield 238, 3) := by decide +kernel
theorem dX12_notes_82 : decode cX12_notes 82 = .ok (.aload_n 0, 1) := by decide +kernel
theorem dX12_notes_83 : decode cX12_notes 83 = .ok (.aload_n 0, 1) := by decide +kernel
theorem dX12_notes_84 : decode cX12_notes 84 = .ok (.getfield 229, 3) := by decide +kernel
theorem dX12_notes_87 : decode cX12_notes 87 = .ok (.iconst 1, 1) := by decide +kernel
theorem dX12_notes_88 : decode cX12_notes 88 = .ok (.if_icmp .eq 11, 3) := by decide +kernel
theorem dX12_notes_91 : decode cX12_notes 91 = .ok (.iload_n 1, 1) := by decide +kernel
theorem dX12_notes_92 : decode cX12_notes 92 = .ok (.aload_n 0, 1) := by decide +kernel
theorem dX12_notes_93 : decode cX12_notes 93 = .ok (.getfield 241, 3) := by decide +kernel
theorem dX12_notes_96 : decode cX12_notes 96 = .ok (.if_icmp .le 7, 3) := by decide +kernel
theorem dX12_notes_99 : decode cX12_notes 99 = .ok (.iload_n 1, 1) := by decide +kernel
theorem dX12_notes_100 : decode cX12_notes 100 = .ok (.goto 7, 3) := by decide +kernel
theorem dX12_notes_103 : decode cX12_notes 103 = .ok (.aload_n 0, 1) := by decide +kernel
theorem dX12_notes_104 : decode cX12_notes 104 = .ok (.getfield 241, 3) := by decide +kernel
theorem dX12_notes_107 : decode cX12_notes 107 = .ok (.putfield 241, 3) := by decide +kernel
theorem dX12_notes_110 : decode cX12_notes 110 = .ok (.return_, 1) := by decide +kernel
theorem dX12_findKeys_0 : decode cX12_findKeys 0 = .ok (.aload_n 0, 1) := by decide +kernel
theorem dX12_findKeys_1 : decode cX12_findKeys 1 = .ok (.iload_n 1, 1) := by decide +kernel
theorem dX12_findKeys_2 : decode cX12_findKeys 2 = .ok (.putfield 232, 3) := by decide +kernel
theorem dX12_findKeys_5 : decode cX12_findKeys 5 = .ok (.aload_n 0, 1) := by decide +kernel
theorem dX12_findKeys_6 : decode cX12_findKeys 6 = .ok (.iload_n 2, 1) := by decide +kernel
theorem dX12_findKeys_7 : decode cX12_findKeys 7 = .ok (.putfield 235, 3) := by decide +kernel
theorem dX12_findKeys_10 : decode cX12_findKeys 10 = .ok (.aload_n 0, 1) := by decide +kernel
theorem dX12_findKeys_11 : decode cX12_findKeys 11 = .ok (.iconst 0, 1) := by decide +kernel
theorem dX12_findKeys_12 : decode cX12_findKeys 12 = .ok (.putfield 229, 3) := by decide +kernel
theorem dX12_findKeys_15 : decode cX12_findKeys 15 = .ok (.iconst 0, 1) := by decide +kernel
theorem dX12_findKeys_16 : decode cX12_findKeys 16 = .ok (.istore_n 3, 1) := by decide +kernel
theorem dX12_findKeys_17 : decode cX12_findKeys 17 = .ok (.iload_n 3, 1) := by decide +kernel
theorem dX12_findKeys_18 : decode cX12_findKeys 18 = .ok (.bipush 6, 2) := by decide +kernel
theorem dX12_findKeys_20 : decode cX12_findKeys 20 = .ok (.if_icmp .ge 16, 3) := by decide +kernel
theorem dX12_findKeys_23 : decode cX12_findKeys 23 = .ok (.aload_n 0, 1) := by decide +kernel
theorem dX12_findKeys_24 : decode cX12_findKeys 24 = .ok (.getfield 34, 3) := by decide +kernel
theorem dX12_findKeys_27 : decode cX12_findKeys 27 = .ok (.iload_n 3, 1) := by decide +kernel
theorem dX12_findKeys_28 : decode cX12_findKeys 28 = .ok (.iconst 0, 1) := by decide +kernel
theorem dX12_findKeys_29 : decode cX12_findKeys 29 = .ok (.iastore, 1) := by decide +kernel
theorem dX12_findKeys_30 : decode cX12_findKeys 30 = .ok (.iinc 3 1, 3) := by decide +kernel
theorem dX12_findKeys_33 : decode cX12_findKeys 33 = .ok (.goto (-16), 3) := by decide +kernel
theorem dX12_findKeys_36 : decode cX12_findKeys 36 = .ok (.iconst 0, 1) := by decide +kernel
theorem dX12_findKeys_37 : decode cX12_findKeys 37 = .ok (.istore_n 3, 1) := by decide +kernel
theorem dX12_findKeys_38 : decode cX12_findKeys 38 = .ok (.aload_n 0, 1) := by decide +kernel
theorem dX12_findKeys_39 : decode cX12_findKeys 39 = .ok (.getfield 31, 3) := by decide +kernel
theorem dX12_findKeys_42 : decode cX12_findKeys 42 = .ok (.iconst 0, 1) := by decide +kernel
theorem dX12_findKeys_43 : decode cX12_findKeys 43 = .ok (.iconst (-1), 1) := by decide +kernel
theorem dX12_findKeys_44 : decode cX12_findKeys 44 = .ok (.iastore, 1) := by decide +kernel
theorem dX12_findKeys_45 : decode cX12_findKeys 45 = .ok (.iconst 0, 1) := by decide +kernel
theorem dX12_findKeys_46 : decode cX12_findKeys 46 = .ok (.istore 4, 2) := by decide +kernel
theorem dX12_findKeys_48 : decode cX12_findKeys 48 = .ok (.iload_n 3, 1) := by decide +kernel
theorem dX12_findKeys_49 : decode cX12_findKeys 49 = .ok (.ifCond .lt 143, 3) := by decide +kernel
theorem dX12_findKeys_52 : decode cX12_findKeys 52 = .ok (.iload 4, 2) := by decide +kernel
theorem dX12_findKeys_54 : decode cX12_findKeys 54 = .ok (.aload_n 0, 1) := by decide +kernel
theorem dX12_findKeys_55 : decode cX12_findKeys 55 = .ok (.getfield 31, 3) := by decide +kernel
theorem dX12_findKeys_58 : decode cX12_findKeys 58 = .ok (.iload_n 3, 1) := by decide +kernel
theorem dX12_findKeys_59 : decode cX12_findKeys 59 = .ok (.iaload, 1) := by decide +kernel
theorem dX12_findKeys_60 : decode cX12_findKeys 60 = .ok (.iconst (-1), 1) := by decide +kernel
theorem dX12_findKeys_61 : decode cX12_findKeys 61 = .ok (.if_icmp .ne 7, 3) := by decide +kernel
theorem dX12_findKeys_64 : decode cX12_findKeys 64 = .ok (.iconst (-1), 1) := by decide +kernel
theorem dX12_findKeys_65 : decode cX12_findKeys 65 = .ok (.goto 13, 3) := by decide +kernel
theorem dX12_findKeys_68 : decode cX12_findKeys 68 = .ok (.iconst 1, 1) := by decide +kernel
theorem dX12_findKeys_69 : decode cX12_findKeys 69 = .ok (.aload_n 0, 1) := by decide +kernel
theorem dX12_findKeys_70 : decode cX12_findKeys 70 = .ok (.getfield 31, 3) := by decide +kernel
theorem dX12_findKeys_73 : decode cX12_findKeys 73 = .ok (.iload_n 3, 1) := by decide +kernel
theorem dX12_findKeys_74 : decode cX12_findKeys 74 = .ok (.iaload, 1) := by decide +kernel
theorem dX12_findKeys_75 : decode cX12_findKeys 75 = .ok (.ishl, 1) := by decide +kernel
theorem dX12_findKeys_76 : decode cX12_findKeys 76 = .ok (.iconst (-1), 1) := by decide +kernel
theorem dX12_findKeys_77 : decode cX12_findKeys 77 = .ok (.ixor, 1) := by decide +kernel
theorem dX12_findKeys_78 : decode cX12_findKeys 78 = .ok (.iand, 1) := by decide +kernel
theorem dX12_findKeys_79 : decode cX12_findKeys 79 = .ok (.istore 4, 2) := by decide +kernel
theorem dX12_findKeys_81 : decode cX12_findKeys 81 = .ok (.aload_n 0, 1) := by decide +kernel
theorem dX12_findKeys_82 : decode cX12_findKeys 82 = .ok (.getfield 31, 3) := by decide +kernel
theorem dX12_findKeys_85 : decode cX12_findKeys 85 = .ok (.iload_n 3, 1) := by decide +kernel
theorem dX12_findKeys_86 : decode cX12_findKeys 86 = .ok (.dup2, 1) := by decide +kernel
theorem dX12_findKeys_87 : decode cX12_findKeys 87 = .ok (.iaload, 1) := by decide +kernel
theorem dX12_findKeys_88 : decode cX12_findKeys 88 = .ok (.iconst 1, 1) := by decide +kernel
theorem dX12_findKeys_89 : decode cX12_findKeys 89 = .ok (.iadd, 1) := by decide +kernel
theorem dX12_findKeys_90 : decode cX12_findKeys 90 = .ok (.iastore, 1) := by decide +kernel
theorem dX12_findKeys_91 : decode cX12_findKeys 91 = .ok (.aload_n 0, 1) := by decide +kernel
theorem dX12_findKeys_92 : decode cX12_findKeys 92 = .ok (.getfield 31, 3) := by decide +kernel
theorem dX12_findKeys_95 : decode cX12_findKeys 95 = .ok (.iload_n 3, 1) := by decide +kernel
theorem dX12_findKeys_96 : decode cX12_findKeys 96 = .ok (.iaload, 1) := by decide +kernel
theorem dX12_findKeys_97 : decode cX12_findKeys 97 = .ok (.bipush 10, 2) := by decide +kernel
theorem dX12_findKeys_99 : decode cX12_findKeys 99 = .ok (.if_icmp .ge 31, 3) := by decide +kernel
theorem dX12_findKeys_102 : decode cX12_findKeys 102 = .ok (.iload 4, 2) := by decide +kernel
theorem dX12_findKeys_104 : decode cX12_findKeys 104 = .ok (.aload_n 0, 1) := by decide +kernel
theorem dX12_findKeys_105 : decode cX12_findKeys 105 = .ok (.getfield 31, 3) := by decide +kernel
theorem dX12_findKeys_108 : decode cX12_findKeys 108 = .ok (.iload_n 3, 1) := by decide +kernel
theorem dX12_findKeys_109 : decode cX12_findKeys 109 = .ok (.iaload, 1) := by decide +kernel
theorem dX12_findKeys_110 : decode cX12_findKeys 110 = .ok (.ishr, 1) := by decide +kernel
theorem dX12_findKeys_111 : decode cX12_findKeys 111 = .ok (.iconst 1, 1) := by decide +kernel
theorem dX12_findKeys_112 : decode cX12_findKeys 112 = .ok (.iand, 1) := by decide +kernel
theorem dX12_findKeys_113 : decode cX12_findKeys 113 = .ok (.iconst 1, 1) := by decide +kernel
theorem dX12_findKeys_114 : decode cX12_findKeys 114 = .ok (.if_icmp .ne 16, 3) := by decide +kernel
theorem dX12_findKeys_117 : decode cX12_findKeys 117 = .ok (.aload_n 0, 1) := by decide +kernel
theorem dX12_findKeys_118 : decode cX12_findKeys 118 = .ok (.getfield 31, 3) := by decide +kernel
theorem dX12_findKeys_121 : decode cX12_findKeys 121 = .ok (.iload_n 3, 1) := by decide +kernel
theorem dX12_findKeys_122 : decode cX12_findKeys 122 = .ok (.dup2, 1) := by decide +kernel
theorem dX12_findKeys_123 : decode cX12_findKeys 123 = .ok (.iaload, 1) := by decide +kernel
theorem dX12_findKeys_124 : decode cX12_findKeys 124 = .ok (.iconst 1, 1) := by decide +kernel
theorem dX12_findKeys_125 : decode cX12_findKeys 125 = .ok (.iadd, 1) := by decide +kernel
theorem dX12_findKeys_126 : decode cX12_findKeys 126 = .ok (.iastore, 1) := by decide +kernel
theorem dX12_findKeys_127 : decode cX12_findKeys 127 = .ok (.goto (-36), 3) := by decide +kernel
theorem dX12_findKeys_130 : decode cX12_findKeys 130 = .ok (.aload_n 0, 1) := by decide +kernel
theorem dX12_findKeys_131 : decode cX12_findKeys 131 = .ok (.getfield 31, 3) := by decide +kernel
theorem dX12_findKeys_134 : decode cX12_findKeys 134 = .ok (.iload_n 3, 1) := by decide +kernel
theorem dX12_findKeys_135 : decode cX12_findKeys 135 = .ok (.iaload, 1) := by decide +kernel
theorem dX12_findKeys_136 : decode cX12_findKeys 136 = .ok (.bipush 10, 2) := by decide +kernel
theorem dX12_findKeys_138 : decode cX12_findKeys 138 = .ok (.if_icmp .ne 9, 3) := by decide +kernel
theorem dX12_findKeys_141 : decode cX12_findKeys 141 = .ok (.iinc 3 (-1), 3) := by decide +kernel
theorem dX12_findKeys_144 : decode cX12_findKeys 144 = .ok (.goto (-96), 3) := by decide +kernel
theorem dX12_findKeys_147 : decode cX12_findKeys 147 = .ok (.iload 4, 2) := by decide +kernel
theorem dX12_findKeys_149 : decode cX12_findKeys 149 = .ok (.iconst 1, 1) := by decide +kernel
theorem dX12_findKeys_150 : decode cX12_findKeys 150 = .ok (.aload_n 0, 1) := by decide +kernel
theorem dX12_findKeys_151 : decode cX12_findKeys 151 = .ok (.getfield 31, 3) := by decide +kernel
theorem dX12_findKeys_154 : decode cX12_findKeys 154 = .ok (.iload_n 3, 1) := by decide +kernel
theorem dX12_findKeys_155 : decode cX12_findKeys 155 = .ok (.iaload, 1) := by decide +kernel
theorem dX12_findKeys_156 : decode cX12_findKeys 156 = .ok (.ishl, 1) := by decide +kernel
theorem dX12_findKeys_157 : decode cX12_findKeys 157 = .ok (.ior, 1) := by decide +kernel
theorem dX12_findKeys_158 : decode cX12_findKeys 158 = .ok (.istore 4, 2) := by decide +kernel
theorem dX12_findKeys_160 : decode cX12_findKeys 160 = .ok (.iload_n 3, 1) := by decide +kernel
theorem dX12_findKeys_161 : decode cX12_findKeys 161 = .ok (.iconst 5, 1) := by decide +kernel
theorem dX12_findKeys_162 : decode cX12_findKeys 162 = .ok (.if_icmp .ge 16, 3) := by decide +kernel
theorem dX12_findKeys_165 : decode cX12_findKeys 165 = .ok (.iinc 3 1, 3) := by decide +kernel
theorem dX12_findKeys_168 : decode cX12_findKeys 168 = .ok (.aload_n 0, 1) := by decide +kernel
theorem dX12_findKeys_169 : decode cX12_findKeys 169 = .ok (.getfield 31, 3) := by decide +kernel
theorem dX12_findKeys_172 : decode cX12_findKeys 172 = .ok (.iload_n 3, 1) := by decide +kernel
theorem dX12_findKeys_173 : decode cX12_findKeys 173 = .ok (.iconst (-1), 1) := by decide +kernel
theorem dX12_findKeys_174 : decode cX12_findKeys 174 = .ok (.iastore, 1) := by decide +kernel
theorem dX12_findKeys_175 : decode cX12_findKeys 175 = .ok (.goto (-127), 3) := by decide +kernel
theorem dX12_findKeys_178 : decode cX12_findKeys 178 = .ok (.aload_n 0, 1) := by decide +kernel
theorem dX12_findKeys_179 : decode cX12_findKeys 179 = .ok (.invokevirtual 244, 3) := by decide +kernel
theorem dX12_findKeys_182 : decode cX12_findKeys 182 = .ok (.ifCond .eq (-134), 3) := by decide +kernel
theorem dX12_findKeys_185 : decode cX12_findKeys 185 = .ok (.aload_n 0, 1) := by decide +kernel
theorem dX12_findKeys_186 : decode cX12_findKeys 186 = .ok (.invokevirtual 248, 3) := by decide +kernel
theorem dX12_findKeys_189 : decode cX12_findKeys 189 = .ok (.goto (-141), 3) := by decide +kernel
theorem dX12_findKeys_192 : decode cX12_findKeys 192 = .ok (.return_, 1) := by decide +kernel
theorem dX12_keys_0 : decode cX12_keys 0 = .ok (.aload_n 0, 1) := by decide +kernel
theorem dX12_keys_1 : decode cX12_keys 1 = .ok (.iconst 1, 1) := by decide +kernel
theorem dX12_keys_2 : decode cX12_keys 2 = .ok (.iconst 0, 1) := by decide +kernel
theorem dX12_keys_3 : decode cX12_keys 3 = .ok (.invokevirtual 251, 3) := by decide +kernel
theorem dX12_keys_6 : decode cX12_keys 6 = .ok (.aload_n 0, 1) := by decide +kernel
theorem dX12_keys_7 : decode cX12_keys 7 = .ok (.getfield 229, 3) := by decide +kernel
theorem dX12_keys_10 : decode cX12_keys 10 = .ok (.ireturn, 1) := by decide +kernel
theorem dX12_may_0 : decode cX12_may 0 = .ok (.iload_n 1, 1) := by decide +kernel
theorem dX12_may_1 : decode cX12_may 1 = .ok (.i2l, 1) := by decide +kernel
theorem dX12_may_2 : decode cX12_may 2 = .ok (.lconst 0, 1) := by decide +kernel
theorem dX12_may_3 : decode cX12_may 3 = .ok (.ldc2_w 101, 3) := by decide +kernel
theorem dX12_may_6 : decode cX12_may 6 = .ok (.invokestatic 97, 3) := by decide +kernel
theorem dX12_may_9 : decode cX12_may 9 = .ok (.ifCond .ne 6, 3) := by decide +kernel
theorem dX12_may_12 : decode cX12_may 12 = .ok (.bipush (-2), 2) := by decide +kernel
theorem dX12_may_14 : decode cX12_may 14 = .ok (.ireturn, 1) := by decide +kernel
theorem dX12_may_15 : decode cX12_may 15 = .ok (.aload_n 0, 1) := by decide +kernel
theorem dX12_may_16 : decode cX12_may 16 = .ok (.iconst 1, 1) := by decide +kernel
theorem dX12_may_17 : decode cX12_may 17 = .ok (.iconst 0, 1) := by decide +kernel
theorem dX12_may_18 : decode cX12_may 18 = .ok (.invokevirtual 251, 3) := by decide +kernel
theorem dX12_may_21 : decode cX12_may 21 = .ok (.aload_n 0, 1) := by decide +kernel
theorem dX12_may_22 : decode cX12_may 22 = .ok (.getfield 34, 3) := by decide +kernel
theorem dX12_may_25 : decode cX12_may 25 = .ok (.iload_n 1, 1) := by decide +kernel
theorem dX12_may_26 : decode cX12_may 26 = .ok (.iaload, 1) := by decide +kernel
theorem dX12_may_27 : decode cX12_may 27 = .ok (.ireturn, 1) := by decide +kernel
theorem dX12_reads_0 : decode cX12_reads 0 = .ok (.iload_n 1, 1) := by decide +kernel
theorem dX12_reads_1 : decode cX12_reads 1 = .ok (.iload_n 2, 1) := by decide +kernel
theorem dX12_reads_2 : decode cX12_reads 2 = .ok (.invokestatic 220, 3) := by decide +kernel
theorem dX12_reads_5 : decode cX12_reads 5 = .ok (.ifCond .eq 13, 3) := by decide +kernel
theorem dX12_reads_8 : decode cX12_reads 8 = .ok (.iload_n 3, 1) := by decide +kernel
theorem dX12_reads_9 : decode cX12_reads 9 = .ok (.i2l, 1) := by decide +kernel
theorem dX12_reads_10 : decode cX12_reads 10 = .ok (.lconst 0, 1) := by decide +kernel
theorem dX12_reads_11 : decode cX12_reads 11 = .ok (.lconst 1, 1) := by decide +kernel
theorem dX12_reads_12 : decode cX12_reads 12 = .ok (.invokestatic 97, 3) := by decide +kernel
theorem dX12_reads_15 : decode cX12_reads 15 = .ok (.ifCond .ne 6, 3) := by decide +kernel
theorem dX12_reads_18 : decode cX12_reads 18 = .ok (.bipush (-2), 2) := by decide +kernel
theorem dX12_reads_20 : decode cX12_reads 20 = .ok (.ireturn, 1) := by decide +kernel
theorem dX12_reads_21 : decode cX12_reads 21 = .ok (.aload_n 0, 1) := by decide +kernel
theorem dX12_reads_22 : decode cX12_reads 22 = .ok (.iload_n 1, 1) := by decide +kernel
theorem dX12_reads_23 : decode cX12_reads 23 = .ok (.iload_n 2, 1) := by decide +kernel
theorem dX12_reads_24 : decode cX12_reads 24 = .ok (.invokevirtual 251, 3) := by decide +kernel
theorem dX12_reads_27 : decode cX12_reads 27 = .ok (.aload_n 0, 1) := by decide +kernel
theorem dX12_reads_28 : decode cX12_reads 28 = .ok (.getfield 229, 3) := by decide +kernel
theorem dX12_reads_31 : decode cX12_reads 31 = .ok (.ifCond .ne 7, 3) := by decide +kernel
theorem dX12_reads_34 : decode cX12_reads 34 = .ok (.iconst (-1), 1) := by decide +kernel
theorem dX12_reads_35 : decode cX12_reads 35 = .ok (.goto 18, 3) := by decide +kernel
theorem dX12_reads_38 : decode cX12_reads 38 = .ok (.iload_n 3, 1) := by decide +kernel
theorem dX12_reads_39 : decode cX12_reads 39 = .ok (.ifCond .ne 10, 3) := by decide +kernel
theorem dX12_reads_42 : decode cX12_reads 42 = .ok (.aload_n 0, 1) := by decide +kernel
theorem dX12_reads_43 : decode cX12_reads 43 = .ok (.getfield 238, 3) := by decide +kernel
theorem dX12_reads_46 : decode cX12_reads 46 = .ok (.goto 7, 3) := by decide +kernel
theorem dX12_reads_49 : decode cX12_reads 49 = .ok (.aload_n 0, 1) := by decide +kernel
theorem dX12_reads_50 : decode cX12_reads 50 = .ok (.getfield 241, 3) := by decide +kernel
theorem dX12_reads_53 : decode cX12_reads 53 = .ok (.ireturn, 1) := by decide +kernel
theorem dX12_dates_0 : decode cX12_dates 0 = .ok (.aload_n 0, 1) := by decide +kernel
theorem dX12_dates_1 : decode cX12_dates 1 = .ok (.iconst 0, 1) := by decide +kernel
theorem dX12_dates_2 : decode cX12_dates 2 = .ok (.putfield 254, 3) := by decide +kernel
theorem dX12_dates_5 : decode cX12_dates 5 = .ok (.iconst 0, 1) := by decide +kernel
theorem dX12_dates_6 : decode cX12_dates 6 = .ok (.istore_n 3, 1) := by decide +kernel
theorem dX12_dates_7 : decode cX12_dates 7 = .ok (.iload_n 3, 1) := by decide +kernel
theorem dX12_dates_8 : decode cX12_dates 8 = .ok (.aload_n 0, 1) := by decide +kernel
theorem dX12_dates_9 : decode cX12_dates 9 = .ok (.getfield 116, 3) := by decide +kernel
theorem dX12_dates_12 : decode cX12_dates 12 = .ok (.if_icmp .ge 140, 3) := by decide +kernel
theorem dX12_dates_15 : decode cX12_dates 15 = .ok (.aload_n 0, 1) := by decide +kernel
theorem dX12_dates_16 : decode cX12_dates 16 = .ok (.iload_n 3, 1) := by decide +kernel
theorem dX12_dates_17 : decode cX12_dates 17 = .ok (.iload_n 1, 1) := by decide +kernel
theorem dX12_dates_18 : decode cX12_dates 18 = .ok (.invokevirtual 128, 3) := by decide +kernel
theorem dX12_dates_21 : decode cX12_dates 21 = .ok (.ifCond .eq 125, 3) := by decide +kernel
theorem dX12_dates_24 : decode cX12_dates 24 = .ok (.aload_n 0, 1) := by decide +kernel
theorem dX12_dates_25 : decode cX12_dates 25 = .ok (.iload_n 3, 1) := by decide +kernel
theorem dX12_dates_26 : decode cX12_dates 26 = .ok (.iconst 2, 1) := by decide +kernel
theorem dX12_dates_27 : decode cX12_dates 27 = .ok (.invokevirtual 122, 3) := by decide +kernel
theorem dX12_dates_30 : decode cX12_dates 30 = .ok (.i2l, 1) := by decide +kernel
theorem dX12_dates_31 : decode cX12_dates 31 = .ok (.lconst 0, 1) := by decide +kernel
theorem dX12_dates_32 : decode cX12_dates 32 = .ok (.iload_n 2, 1) := by decide +kernel
theorem dX12_dates_33 : decode cX12_dates 33 = .ok (.iconst 1, 1) := by decide +kernel
theorem dX12_dates_34 : decode cX12_dates 34 = .ok (.isub, 1) := by decide +kernel
theorem dX12_dates_35 : decode cX12_dates 35 = .ok (.i2l, 1) := by decide +kernel
theorem dX12_dates_36 : decode cX12_dates 36 = .ok (.invokestatic 97, 3) := by decide +kernel
theorem dX12_dates_39 : decode cX12_dates 39 = .ok (.ifCond .eq 107, 3) := by decide +kernel
theorem dX12_dates_42 : decode cX12_dates 42 = .ok (.aload_n 0, 1) := by decide +kernel
theorem dX12_dates_43 : decode cX12_dates 43 = .ok (.getfield 254, 3) := by decide +kernel
theorem dX12_dates_46 : decode cX12_dates 46 = .ok (.istore 4, 2) := by decide +kernel
theorem dX12_dates_48 : decode cX12_dates 48 = .ok (.iload 4, 2) := by decide +kernel
theorem dX12_dates_50 : decode cX12_dates 50 = .ok (.ifCond .le 78, 3) := by decide +kernel
theorem dX12_dates_53 : decode cX12_dates 53 = .ok (.sipush 10000, 3) := by decide +kernel
theorem dX12_dates_56 : decode cX12_dates 56 = .ok (.aload_n 0, 1) := by decide +kernel
theorem dX12_dates_57 : decode cX12_dates 57 = .ok (.aload_n 0, 1) := by decide +kernel
theorem dX12_dates_58 : decode cX12_dates 58 = .ok (.getfield 37, 3) := by decide +kernel
theorem dX12_dates_61 : decode cX12_dates 61 = .ok (.iload 4, 2) := by decide +kernel
theorem dX12_dates_63 : decode cX12_dates 63 = .ok (.iconst 1, 1) := by decide +kernel
theorem dX12_dates_64 : decode cX12_dates 64 = .ok (.isub, 1) := by decide +kernel
theorem dX12_dates_65 : decode cX12_dates 65 = .ok (.iaload, 1) := by decide +kernel
theorem dX12_dates_66 : decode cX12_dates 66 = .ok (.iconst 2, 1) := by decide +kernel
theorem dX12_dates_67 : decode cX12_dates 67 = .ok (.invokevirtual 122, 3) := by decide +kernel
theorem dX12_dates_70 : decode cX12_dates 70 = .ok (.imul, 1) := by decide +kernel
theorem dX12_dates_71 : decode cX12_dates 71 = .ok (.aload_n 0, 1) := by decide +kernel
theorem dX12_dates_72 : decode cX12_dates 72 = .ok (.aload_n 0, 1) := by decide +kernel
theorem dX12_dates_73 : decode cX12_dates 73 = .ok (.getfield 37, 3) := by decide +kernel
theorem dX12_dates_76 : decode cX12_dates 76 = .ok (.iload 4, 2) := by decide +kernel
theorem dX12_dates_78 : decode cX12_dates 78 = .ok (.iconst 1, 1) := by decide +kernel
theorem dX12_dates_79 : decode cX12_dates 79 = .ok (.isub, 1) := by decide +kernel
theorem dX12_dates_80 : decode cX12_dates 80 = .ok (.iaload, 1) := by decide +kernel
theorem dX12_dates_81 : decode cX12_dates 81 = .ok (.iconst 1, 1) := by decide +kernel
theorem dX12_dates_82 : decode cX12_dates 82 = .ok (.invokevirtual 122, 3) := by decide +kernel
theorem dX12_dates_85 : decode cX12_dates 85 = .ok (.iadd, 1) := by decide +kernel
theorem dX12_dates_86 : decode cX12_dates 86 = .ok (.sipush 10000, 3) := by decide +kernel
theorem dX12_dates_89 : decode cX12_dates 89 = .ok (.aload_n 0, 1) := by decide +kernel
theorem dX12_dates_90 : decode cX12_dates 90 = .ok (.iload_n 3, 1) := by decide +kernel
theorem dX12_dates_91 : decode cX12_dates 91 = .ok (.iconst 2, 1) := by decide +kernel
theorem dX12_dates_92 : decode cX12_dates 92 = .ok (.invokevirtual 122, 3) := by decide +kernel
theorem dX12_dates_95 : decode cX12_dates 95 = .ok (.imul, 1) := by decide +kernel
theorem dX12_dates_96 : decode cX12_dates 96 = .ok (.aload_n 0, 1) := by decide +kernel
theorem dX12_dates_97 : decode cX12_dates 97 = .ok (.iload_n 3, 1) := by decide +kernel
theorem dX12_dates_98 : decode cX12_dates 98 = .ok (.iconst 1, 1) := by decide +kernel
theorem dX12_dates_99 : decode cX12_dates 99 = .ok (.invokevirtual 122, 3) := by decide +kernel
theorem dX12_dates_102 : decode cX12_dates 102 = .ok (.iadd, 1) := by decide +kernel
theorem dX12_dates_103 : decode cX12_dates 103 = .ok (.if_icmp .le 25, 3) := by decide +kernel
theorem dX12_dates_106 : decode cX12_dates 106 = .ok (.aload_n 0, 1) := by decide +kernel
theorem dX12_dates_107 : decode cX12_dates 107 = .ok (.getfield 37, 3) := by decide +kernel
theorem dX12_dates_110 : decode cX12_dates 110 = .ok (.iload 4, 2) := by decide +kernel
theorem dX12_dates_112 : decode cX12_dates 112 = .ok (.aload_n 0, 1) := by decide +kernel
theorem dX12_dates_113 : decode cX12_dates 113 = .ok (.getfield 37, 3) := by decide +kernel
theorem dX12_dates_116 : decode cX12_dates 116 = .ok (.iload 4, 2) := by decide +kernel
theorem dX12_dates_118 : decode cX12_dates 118 = .ok (.iconst 1, 1) := by decide +kernel
theorem dX12_dates_119 : decode cX12_dates 119 = .ok (.isub, 1) := by decide +kernel
theorem dX12_dates_120 : decode cX12_dates 120 = .ok (.iaload, 1) := by decide +kernel
theorem dX12_dates_121 : decode cX12_dates 121 = .ok (.iastore, 1) := by decide +kernel
theorem dX12_dates_122 : decode cX12_dates 122 = .ok (.iinc 4 (-1), 3) := by decide +kernel
theorem dX12_dates_125 : decode cX12_dates 125 = .ok (.goto (-77), 3) := by decide +kernel
theorem dX12_dates_128 : decode cX12_dates 128 = .ok (.aload_n 0, 1) := by decide +kernel
theorem dX12_dates_129 : decode cX12_dates 129 = .ok (.getfield 37, 3) := by decide +kernel
theorem dX12_dates_132 : decode cX12_dates 132 = .ok (.iload 4, 2) := by decide +kernel
theorem dX12_dates_134 : decode cX12_dates 134 = .ok (.iload_n 3, 1) := by decide +kernel
theorem dX12_dates_135 : decode cX12_dates 135 = .ok (.iastore, 1) := by decide +kernel
theorem dX12_dates_136 : decode cX12_dates 136 = .ok (.aload_n 0, 1) := by decide +kernel
theorem dX12_dates_137 : decode cX12_dates 137 = .ok (.dup, 1) := by decide +kernel
theorem dX12_dates_138 : decode cX12_dates 138 = .ok (.getfield 254, 3) := by decide +kernel
theorem dX12_dates_141 : decode cX12_dates 141 = .ok (.iconst 1, 1) := by decide +kernel
theorem dX12_dates_142 : decode cX12_dates 142 = .ok (.iadd, 1) := by decide +kernel
theorem dX12_dates_143 : decode cX12_dates 143 = .ok (.putfield 254, 3) := by decide +kernel
theorem dX12_dates_146 : decode cX12_dates 146 = .ok (.iinc 3 1, 3) := by decide +kernel
theorem dX12_dates_149 : decode cX12_dates 149 = .ok (.goto (-142), 3) := by decide +kernel
theorem dX12_dates_152 : decode cX12_dates 152 = .ok (.return_, 1) := by decide +kernel
theorem dX12_runsOf_0 : decode cX12_runsOf 0 = .ok (.aload_n 0, 1) := by decide +kernel
theorem dX12_runsOf_1 : decode cX12_runsOf 1 = .ok (.iload_n 1, 1) := by decide +kernel
theorem dX12_runsOf_2 : decode cX12_runsOf 2 = .ok (.bipush 30, 2) := by decide +kernel
theorem dX12_runsOf_4 : decode cX12_runsOf 4 = .ok (.invokevirtual 257, 3) := by decide +kernel
theorem dX12_runsOf_7 : decode cX12_runsOf 7 = .ok (.aload_n 0, 1) := by decide +kernel
theorem dX12_runsOf_8 : decode cX12_runsOf 8 = .ok (.getfield 254, 3) := by decide +kernel
theorem dX12_runsOf_11 : decode cX12_runsOf 11 = .ok (.ifCond .ne 7, 3) := by decide +kernel
theorem dX12_runsOf_14 : decode cX12_runsOf 14 = .ok (.iconst 0, 1) := by decide +kernel
theorem dX12_runsOf_15 : decode cX12_runsOf 15 = .ok (.goto 4, 3) := by decide +kernel
theorem dX12_runsOf_18 : decode cX12_runsOf 18 = .ok (.iconst 1, 1) := by decide +kernel
theorem dX12_runsOf_19 : decode cX12_runsOf 19 = .ok (.istore_n 3, 1) := by decide +kernel
theorem dX12_runsOf_20 : decode cX12_runsOf 20 = .ok (.iconst (-1), 1) := by decide +kernel
theorem dX12_runsOf_21 : decode cX12_runsOf 21 = .ok (.istore 4, 2) := by decide +kernel
theorem dX12_runsOf_23 : decode cX12_runsOf 23 = .ok (.iconst 1, 1) := by decide +kernel
theorem dX12_runsOf_24 : decode cX12_runsOf 24 = .ok (.istore 5, 2) := by decide +kernel
theorem dX12_runsOf_26 : decode cX12_runsOf 26 = .ok (.iload 5, 2) := by decide +kernel
theorem dX12_runsOf_28 : decode cX12_runsOf 28 = .ok (.aload_n 0, 1) := by decide +kernel
theorem dX12_runsOf_29 : decode cX12_runsOf 29 = .ok (.getfield 254, 3) := by decide +kernel
theorem dX12_runsOf_32 : decode cX12_runsOf 32 = .ok (.if_icmp .ge 88, 3) := by decide +kernel
theorem dX12_runsOf_35 : decode cX12_runsOf 35 = .ok (.aload_n 0, 1) := by decide +kernel
theorem dX12_runsOf_36 : decode cX12_runsOf 36 = .ok (.aload_n 0, 1) := by decide +kernel
theorem dX12_runsOf_37 : decode cX12_runsOf 37 = .ok (.getfield 37, 3) := by decide +kernel
theorem dX12_runsOf_40 : decode cX12_runsOf 40 = .ok (.iload 5, 2) := by decide +kernel
theorem dX12_runsOf_42 : decode cX12_runsOf 42 = .ok (.iaload, 1) := by decide +kernel
theorem dX12_runsOf_43 : decode cX12_runsOf 43 = .ok (.iconst 1, 1) := by decide +kernel
theorem dX12_runsOf_44 : decode cX12_runsOf 44 = .ok (.invokevirtual 122, 3) := by decide +kernel
theorem dX12_runsOf_47 : decode cX12_runsOf 47 = .ok (.aload_n 0, 1) := by decide +kernel
theorem dX12_runsOf_48 : decode cX12_runsOf 48 = .ok (.aload_n 0, 1) := by decide +kernel
theorem dX12_runsOf_49 : decode cX12_runsOf 49 = .ok (.getfield 37, 3) := by decide +kernel
theorem dX12_runsOf_52 : decode cX12_runsOf 52 = .ok (.iload 5, 2) := by decide +kernel
theorem dX12_runsOf_54 : decode cX12_runsOf 54 = .ok (.iconst 1, 1) := by decide +kernel
theorem dX12_runsOf_55 : decode cX12_runsOf 55 = .ok (.isub, 1) := by decide +kernel
theorem dX12_runsOf_56 : decode cX12_runsOf 56 = .ok (.iaload, 1) := by decide +kernel
theorem dX12_runsOf_57 : decode cX12_runsOf 57 = .ok (.iconst 1, 1) := by decide +kernel
theorem dX12_runsOf_58 : decode cX12_runsOf 58 = .ok (.invokevirtual 122, 3) := by decide +kernel
theorem dX12_runsOf_61 : decode cX12_runsOf 61 = .ok (.if_icmp .ge 7, 3) := by decide +kernel
theorem dX12_runsOf_64 : decode cX12_runsOf 64 = .ok (.iconst 1, 1) := by decide +kernel
theorem dX12_runsOf_65 : decode cX12_runsOf 65 = .ok (.goto 4, 3) := by decide +kernel
theorem dX12_runsOf_68 : decode cX12_runsOf 68 = .ok (.iconst 0, 1) := by decide +kernel
theorem dX12_runsOf_69 : decode cX12_runsOf 69 = .ok (.istore 6, 2) := by decide +kernel
theorem dX12_runsOf_71 : decode cX12_runsOf 71 = .ok (.iload_n 3, 1) := by decide +kernel
theorem dX12_runsOf_72 : decode cX12_runsOf 72 = .ok (.iload 6, 2) := by decide +kernel
theorem dX12_runsOf_74 : decode cX12_runsOf 74 = .ok (.ifCond .eq 7, 3) := by decide +kernel
theorem dX12_runsOf_77 : decode cX12_runsOf 77 = .ok (.iconst 1, 1) := by decide +kernel
theorem dX12_runsOf_78 : decode cX12_runsOf 78 = .ok (.goto 4, 3) := by decide +kernel
theorem dX12_runsOf_81 : decode cX12_runsOf 81 = .ok (.iconst 0, 1) := by decide +kernel
theorem dX12_runsOf_82 : decode cX12_runsOf 82 = .ok (.iadd, 1) := by decide +kernel
theorem dX12_runsOf_83 : decode cX12_runsOf 83 = .ok (.istore_n 3, 1) := by decide +kernel
theorem dX12_runsOf_84 : decode cX12_runsOf 84 = .ok (.iload 6, 2) := by decide +kernel
theorem dX12_runsOf_86 : decode cX12_runsOf 86 = .ok (.ifCond .eq 24, 3) := by decide +kernel
theorem dX12_runsOf_89 : decode cX12_runsOf 89 = .ok (.iload 4, 2) := by decide +kernel
theorem dX12_runsOf_91 : decode cX12_runsOf 91 = .ok (.iconst (-1), 1) := by decide +kernel
theorem dX12_runsOf_92 : decode cX12_runsOf 92 = .ok (.if_icmp .ne 18, 3) := by decide +kernel
theorem dX12_runsOf_95 : decode cX12_runsOf 95 = .ok (.aload_n 0, 1) := by decide +kernel
theorem dX12_runsOf_96 : decode cX12_runsOf 96 = .ok (.aload_n 0, 1) := by decide +kernel
theorem dX12_runsOf_97 : decode cX12_runsOf 97 = .ok (.getfield 37, 3) := by decide +kernel
theorem dX12_runsOf_100 : decode cX12_runsOf 100 = .ok (.iload 5, 2) := by decide +kernel
theorem dX12_runsOf_102 : decode cX12_runsOf 102 = .ok (.iaload, 1) := by decide +kernel
theorem dX12_runsOf_103 : decode cX12_runsOf 103 = .ok (.iconst 2, 1) := by decide +kernel
theorem dX12_runsOf_104 : decode cX12_runsOf 104 = .ok (.invokevirtual 122, 3) := by decide +kernel
theorem dX12_runsOf_107 : decode cX12_runsOf 107 = .ok (.goto 5, 3) := by decide +kernel
theorem dX12_runsOf_110 : decode cX12_runsOf 110 = .ok (.iload 4, 2) := by decide +kernel
theorem dX12_runsOf_112 : decode cX12_runsOf 112 = .ok (.istore 4, 2) := by decide +kernel
theorem dX12_runsOf_114 : decode cX12_runsOf 114 = .ok (.iinc 5 1, 3) := by decide +kernel
theorem dX12_runsOf_117 : decode cX12_runsOf 117 = .ok (.goto (-91), 3) := by decide +kernel
theorem dX12_runsOf_120 : decode cX12_runsOf 120 = .ok (.iload_n 2, 1) := by decide +kernel
theorem dX12_runsOf_121 : decode cX12_runsOf 121 = .ok (.ifCond .ne 7, 3) := by decide +kernel
theorem dX12_runsOf_124 : decode cX12_runsOf 124 = .ok (.iload_n 3, 1) := by decide +kernel
theorem dX12_runsOf_125 : decode cX12_runsOf 125 = .ok (.goto 5, 3) := by decide +kernel
theorem dX12_runsOf_128 : decode cX12_runsOf 128 = .ok (.iload 4, 2) := by decide +kernel
theorem dX12_runsOf_130 : decode cX12_runsOf 130 = .ok (.ireturn, 1) := by decide +kernel
theorem dX12_runs_0 : decode cX12_runs 0 = .ok (.iload_n 1, 1) := by decide +kernel
theorem dX12_runs_1 : decode cX12_runs 1 = .ok (.invokestatic 103, 3) := by decide +kernel
theorem dX12_runs_4 : decode cX12_runs 4 = .ok (.ifCond .eq 22, 3) := by decide +kernel
theorem dX12_runs_7 : decode cX12_runs 7 = .ok (.iload_n 2, 1) := by decide +kernel
theorem dX12_runs_8 : decode cX12_runs 8 = .ok (.i2l, 1) := by decide +kernel
theorem dX12_runs_9 : decode cX12_runs 9 = .ok (.lconst 0, 1) := by decide +kernel
theorem dX12_runs_10 : decode cX12_runs 10 = .ok (.lconst 1, 1) := by decide +kernel
theorem dX12_runs_11 : decode cX12_runs 11 = .ok (.invokestatic 97, 3) := by decide +kernel
theorem dX12_runs_14 : decode cX12_runs 14 = .ok (.ifCond .eq 12, 3) := by decide +kernel
theorem dX12_runs_17 : decode cX12_runs 17 = .ok (.aload_n 0, 1) := by decide +kernel
theorem dX12_runs_18 : decode cX12_runs 18 = .ok (.iload_n 1, 1) := by decide +kernel
theorem dX12_runs_19 : decode cX12_runs 19 = .ok (.iload_n 2, 1) := by decide +kernel
theorem dX12_runs_20 : decode cX12_runs 20 = .ok (.invokevirtual 260, 3) := by decide +kernel
theorem dX12_runs_23 : decode cX12_runs 23 = .ok (.goto 5, 3) := by decide +kernel
theorem dX12_runs_26 : decode cX12_runs 26 = .ok (.bipush (-2), 2) := by decide +kernel
theorem dX12_runs_28 : decode cX12_runs 28 = .ok (.ireturn, 1) := by decide +kernel
theorem dX12_findGap_0 : decode cX12_findGap 0 = .ok (.iconst 0, 1) := by decide +kernel
theorem dX12_findGap_1 : decode cX12_findGap 1 = .ok (.istore_n 2, 1) := by decide +kernel
theorem dX12_findGap_2 : decode cX12_findGap 2 = .ok (.iconst 0, 1) := by decide +kernel
theorem dX12_findGap_3 : decode cX12_findGap 3 = .ok (.istore_n 3, 1) := by decide +kernel
theorem dX12_findGap_4 : decode cX12_findGap 4 = .ok (.iload_n 3, 1) := by decide +kernel
theorem dX12_findGap_5 : decode cX12_findGap 5 = .ok (.aload_n 0, 1) := by decide +kernel
theorem dX12_findGap_6 : decode cX12_findGap 6 = .ok (.getfield 254, 3) := by decide +kernel
theorem dX12_findGap_9 : decode cX12_findGap 9 = .ok (.if_icmp .ge 25, 3) := by decide +kernel
theorem dX12_findGap_12 : decode cX12_findGap 12 = .ok (.iload_n 2, 1) := by decide +kernel
theorem dX12_findGap_13 : decode cX12_findGap 13 = .ok (.iconst 1, 1) := by decide +kernel
theorem dX12_findGap_14 : decode cX12_findGap 14 = .ok (.aload_n 0, 1) := by decide +kernel
theorem dX12_findGap_15 : decode cX12_findGap 15 = .ok (.aload_n 0, 1) := by decide +kernel
theorem dX12_findGap_16 : decode cX12_findGap 16 = .ok (.getfield 37, 3) := by decide +kernel
theorem dX12_findGap_19 : decode cX12_findGap 19 = .ok (.iload_n 3, 1) := by decide +kernel
theorem dX12_findGap_20 : decode cX12_findGap 20 = .ok (.iaload, 1) := by decide +kernel
theorem dX12_findGap_21 : decode cX12_findGap 21 = .ok (.iconst 2, 1) := by decide +kernel
theorem dX12_findGap_22 : decode cX12_findGap 22 = .ok (.invokevirtual 122, 3) := by decide +kernel
theorem dX12_findGap_25 : decode cX12_findGap 25 = .ok (.ishl, 1) := by decide +kernel
theorem dX12_findGap_26 : decode cX12_findGap 26 = .ok (.ior, 1) := by decide +kernel
theorem dX12_findGap_27 : decode cX12_findGap 27 = .ok (.istore_n 2, 1) := by decide +kernel
theorem dX12_findGap_28 : decode cX12_findGap 28 = .ok (.iinc 3 1, 3) := by decide +kernel
theorem dX12_findGap_31 : decode cX12_findGap 31 = .ok (.goto (-27), 3) := by decide +kernel
theorem dX12_findGap_34 : decode cX12_findGap 34 = .ok (.aload_n 0, 1) := by decide +kernel
theorem dX12_findGap_35 : decode cX12_findGap 35 = .ok (.iconst 0, 1) := by decide +kernel
theorem dX12_findGap_36 : decode cX12_findGap 36 = .ok (.putfield 263, 3) := by decide +kernel
theorem dX12_findGap_39 : decode cX12_findGap 39 = .ok (.aload_n 0, 1) := by decide +kernel
theorem dX12_findGap_40 : decode cX12_findGap 40 = .ok (.iconst (-1), 1) := by decide +kernel
theorem dX12_findGap_41 : decode cX12_findGap 41 = .ok (.putfield 266, 3) := by decide +kernel
theorem dX12_findGap_44 : decode cX12_findGap 44 = .ok (.iconst 0, 1) := by decide +kernel
theorem dX12_findGap_45 : decode cX12_findGap 45 = .ok (.istore_n 3, 1) := by decide +kernel
theorem dX12_findGap_46 : decode cX12_findGap 46 = .ok (.iconst 0, 1) := by decide +kernel
theorem dX12_findGap_47 : decode cX12_findGap 47 = .ok (.istore 4, 2) := by decide +kernel
theorem dX12_findGap_49 : decode cX12_findGap 49 = .ok (.iload 4, 2) := by decide +kernel
theorem dX12_findGap_51 : decode cX12_findGap 51 = .ok (.iload_n 1, 1) := by decide +kernel
theorem dX12_findGap_52 : decode cX12_findGap 52 = .ok (.if_icmp .ge 72, 3) := by decide +kernel
theorem dX12_findGap_55 : decode cX12_findGap 55 = .ok (.iload_n 2, 1) := by decide +kernel
theorem dX12_findGap_56 : decode cX12_findGap 56 = .ok (.iload 4, 2) := by decide +kernel
theorem dX12_findGap_58 : decode cX12_findGap 58 = .ok (.ishr, 1) := by decide +kernel
theorem dX12_findGap_59 : decode cX12_findGap 59 = .ok (.iconst 1, 1) := by decide +kernel
theorem dX12_findGap_60 : decode cX12_findGap 60 = .ok (.iand, 1) := by decide +kernel
theorem dX12_findGap_61 : decode cX12_findGap 61 = .ok (.iconst 1, 1) := by decide +kernel
theorem dX12_findGap_62 : decode cX12_findGap 62 = .ok (.if_icmp .ne 7, 3) := by decide +kernel
theorem dX12_findGap_65 : decode cX12_findGap 65 = .ok (.iconst 0, 1) := by decide +kernel
theorem dX12_findGap_66 : decode cX12_findGap 66 = .ok (.goto 6, 3) := by decide +kernel
theorem dX12_findGap_69 : decode cX12_findGap 69 = .ok (.iload_n 3, 1) := by decide +kernel
theorem dX12_findGap_70 : decode cX12_findGap 70 = .ok (.iconst 1, 1) := by decide +kernel
theorem dX12_findGap_71 : decode cX12_findGap 71 = .ok (.iadd, 1) := by decide +kernel
theorem dX12_findGap_72 : decode cX12_findGap 72 = .ok (.istore_n 3, 1) := by decide +kernel
theorem dX12_findGap_73 : decode cX12_findGap 73 = .ok (.aload_n 0, 1) := by decide +kernel
theorem dX12_findGap_74 : decode cX12_findGap 74 = .ok (.iload_n 3, 1) := by decide +kernel
theorem dX12_findGap_75 : decode cX12_findGap 75 = .ok (.aload_n 0, 1) := by decide +kernel
theorem dX12_findGap_76 : decode cX12_findGap 76 = .ok (.getfield 263, 3) := by decide +kernel
theorem dX12_findGap_79 : decode cX12_findGap 79 = .ok (.if_icmp .le 12, 3) := by decide +kernel
theorem dX12_findGap_82 : decode cX12_findGap 82 = .ok (.iload 4, 2) := by decide +kernel
theorem dX12_findGap_84 : decode cX12_findGap 84 = .ok (.iload_n 3, 1) := by decide +kernel
theorem dX12_findGap_85 : decode cX12_findGap 85 = .ok (.isub, 1) := by decide +kernel
theorem dX12_findGap_86 : decode cX12_findGap 86 = .ok (.iconst 1, 1) := by decide +kernel
theorem dX12_findGap_87 : decode cX12_findGap 87 = .ok (.iadd, 1) := by decide +kernel
theorem dX12_findGap_88 : decode cX12_findGap 88 = .ok (.goto 7, 3) := by decide +kernel
theorem dX12_findGap_91 : decode cX12_findGap 91 = .ok (.aload_n 0, 1) := by decide +kernel
theorem dX12_findGap_92 : decode cX12_findGap 92 = .ok (.getfield 266, 3) := by decide +kernel
theorem dX12_findGap_95 : decode cX12_findGap 95 = .ok (.putfield 266, 3) := by decide +kernel
theorem dX12_findGap_98 : decode cX12_findGap 98 = .ok (.aload_n 0, 1) := by decide +kernel
theorem dX12_findGap_99 : decode cX12_findGap 99 = .ok (.iload_n 3, 1) := by decide +kernel
theorem dX12_findGap_100 : decode cX12_findGap 100 = .ok (.aload_n 0, 1) := by decide +kernel
theorem dX12_findGap_101 : decode cX12_findGap 101 = .ok (.getfield 263, 3) := by decide +kernel
theorem dX12_findGap_104 : decode cX12_findGap 104 = .ok (.if_icmp .le 7, 3) := by decide +kernel
theorem dX12_findGap_107 : decode cX12_findGap 107 = .ok (.iload_n 3, 1) := by decide +kernel
theorem dX12_findGap_108 : decode cX12_findGap 108 = .ok (.goto 7, 3) := by decide +kernel
theorem dX12_findGap_111 : decode cX12_findGap 111 = .ok (.aload_n 0, 1) := by decide +kernel
theorem dX12_findGap_112 : decode cX12_findGap 112 = .ok (.getfield 263, 3) := by decide +kernel
theorem dX12_findGap_115 : decode cX12_findGap 115 = .ok (.putfield 263, 3) := by decide +kernel
theorem dX12_findGap_118 : decode cX12_findGap 118 = .ok (.iinc 4 1, 3) := by decide +kernel
theorem dX12_findGap_121 : decode cX12_findGap 121 = .ok (.goto (-72), 3) := by decide +kernel
theorem dX12_findGap_124 : decode cX12_findGap 124 = .ok (.return_, 1) := by decide +kernel
theorem dX12_gaps_0 : decode cX12_gaps 0 = .ok (.iload_n 1, 1) := by decide +kernel
theorem dX12_gaps_1 : decode cX12_gaps 1 = .ok (.invokestatic 103, 3) := by decide +kernel
theorem dX12_gaps_4 : decode cX12_gaps 4 = .ok (.ifCond .eq 19, 3) := by decide +kernel
theorem dX12_gaps_7 : decode cX12_gaps 7 = .ok (.iload_n 2, 1) := by decide +kernel
theorem dX12_gaps_8 : decode cX12_gaps 8 = .ok (.i2l, 1) := by decide +kernel
theorem dX12_gaps_9 : decode cX12_gaps 9 = .ok (.lconst 1, 1) := by decide +kernel
theorem dX12_gaps_10 : decode cX12_gaps 10 = .ok (.ldc2_w 206, 3) := by decide +kernel
theorem dX12_gaps_13 : decode cX12_gaps 13 = .ok (.invokestatic 97, 3) := by decide +kernel
theorem dX12_gaps_16 : decode cX12_gaps 16 = .ok (.ifCond .eq 7, 3) := by decide +kernel
theorem dX12_gaps_19 : decode cX12_gaps 19 = .ok (.iload_n 3, 1) := by decide +kernel
theorem dX12_gaps_20 : decode cX12_gaps 20 = .ok (.ifCond .ne 6, 3) := by decide +kernel
theorem dX12_gaps_23 : decode cX12_gaps 23 = .ok (.bipush (-2), 2) := by decide +kernel
theorem dX12_gaps_25 : decode cX12_gaps 25 = .ok (.ireturn, 1) := by decide +kernel
theorem dX12_gaps_26 : decode cX12_gaps 26 = .ok (.aload_n 0, 1) := by decide +kernel
theorem dX12_gaps_27 : decode cX12_gaps 27 = .ok (.iload_n 1, 1) := by decide +kernel
theorem dX12_gaps_28 : decode cX12_gaps 28 = .ok (.iload_n 2, 1) := by decide +kernel
theorem dX12_gaps_29 : decode cX12_gaps 29 = .ok (.invokevirtual 257, 3) := by decide +kernel
theorem dX12_gaps_32 : decode cX12_gaps 32 = .ok (.aload_n 0, 1) := by decide +kernel
theorem dX12_gaps_33 : decode cX12_gaps 33 = .ok (.getfield 254, 3) := by decide +kernel
theorem dX12_gaps_36 : decode cX12_gaps 36 = .ok (.i2l, 1) := by decide +kernel
theorem dX12_gaps_37 : decode cX12_gaps 37 = .ok (.lconst 1, 1) := by decide +kernel
theorem dX12_gaps_38 : decode cX12_gaps 38 = .ok (.ldc2_w 269, 3) := by decide +kernel
theorem dX12_gaps_41 : decode cX12_gaps 41 = .ok (.invokestatic 97, 3) := by decide +kernel
theorem dX12_gaps_44 : decode cX12_gaps 44 = .ok (.ifCond .ne 6, 3) := by decide +kernel
theorem dX12_gaps_47 : decode cX12_gaps 47 = .ok (.bipush (-3), 2) := by decide +kernel
theorem dX12_gaps_49 : decode cX12_gaps 49 = .ok (.ireturn, 1) := by decide +kernel
theorem dX12_gaps_50 : decode cX12_gaps 50 = .ok (.aload_n 0, 1) := by decide +kernel
theorem dX12_gaps_51 : decode cX12_gaps 51 = .ok (.iload_n 2, 1) := by decide +kernel
theorem dX12_gaps_52 : decode cX12_gaps 52 = .ok (.invokevirtual 271, 3) := by decide +kernel
theorem dX12_gaps_55 : decode cX12_gaps 55 = .ok (.iconst 1, 1) := by decide +kernel
theorem dX12_gaps_56 : decode cX12_gaps 56 = .ok (.ireturn, 1) := by decide +kernel
theorem dX12_gap_0 : decode cX12_gap 0 = .ok (.aload_n 0, 1) := by decide +kernel
theorem dX12_gap_1 : decode cX12_gap 1 = .ok (.iload_n 1, 1) := by decide +kernel
theorem dX12_gap_2 : decode cX12_gap 2 = .ok (.iload_n 2, 1) := by decide +kernel
theorem dX12_gap_3 : decode cX12_gap 3 = .ok (.iload_n 3, 1) := by decide +kernel
theorem dX12_gap_4 : decode cX12_gap 4 = .ok (.i2l, 1) := by decide +kernel
theorem dX12_gap_5 : decode cX12_gap 5 = .ok (.lconst 0, 1) := by decide +kernel
theorem dX12_gap_6 : decode cX12_gap 6 = .ok (.lconst 1, 1) := by decide +kernel
theorem dX12_gap_7 : decode cX12_gap 7 = .ok (.invokestatic 97, 3) := by decide +kernel
theorem dX12_gap_10 : decode cX12_gap 10 = .ok (.invokevirtual 274, 3) := by decide +kernel
theorem dX12_gap_13 : decode cX12_gap 13 = .ok (.istore 4, 2) := by decide +kernel
theorem dX12_gap_15 : decode cX12_gap 15 = .ok (.iload 4, 2) := by decide +kernel
theorem dX12_gap_17 : decode cX12_gap 17 = .ok (.iconst 1, 1) := by decide +kernel
theorem dX12_gap_18 : decode cX12_gap 18 = .ok (.if_icmp .eq 8, 3) := by decide +kernel
theorem dX12_gap_21 : decode cX12_gap 21 = .ok (.iload 4, 2) := by decide +kernel
theorem dX12_gap_23 : decode cX12_gap 23 = .ok (.goto 18, 3) := by decide +kernel
theorem dX12_gap_26 : decode cX12_gap 26 = .ok (.iload_n 3, 1) := by decide +kernel
theorem dX12_gap_27 : decode cX12_gap 27 = .ok (.ifCond .ne 10, 3) := by decide +kernel
theorem dX12_gap_30 : decode cX12_gap 30 = .ok (.aload_n 0, 1) := by decide +kernel
theorem dX12_gap_31 : decode cX12_gap 31 = .ok (.getfield 263, 3) := by decide +kernel
theorem dX12_gap_34 : decode cX12_gap 34 = .ok (.goto 7, 3) := by decide +kernel
theorem dX12_gap_37 : decode cX12_gap 37 = .ok (.aload_n 0, 1) := by decide +kernel
theorem dX12_gap_38 : decode cX12_gap 38 = .ok (.getfield 266, 3) := by decide +kernel
theorem dX12_gap_41 : decode cX12_gap 41 = .ok (.ireturn, 1) := by decide +kernel
theorem dX12_findSets_0 : decode cX12_findSets 0 = .ok (.iconst 0, 1) := by decide +kernel
theorem dX12_findSets_1 : decode cX12_findSets 1 = .ok (.istore_n 3, 1) := by decide +kernel
theorem dX12_findSets_2 : decode cX12_findSets 2 = .ok (.iload_n 3, 1) := by decide +kernel
theorem dX12_findSets_3 : decode cX12_findSets 3 = .ok (.sipush 403, 3) := by decide +kernel
theorem dX12_findSets_6 : decode cX12_findSets 6 = .ok (.if_icmp .ge 24, 3) := by decide +kernel
theorem dX12_findSets_9 : decode cX12_findSets 9 = .ok (.aload_n 0, 1) := by decide +kernel
theorem dX12_findSets_10 : decode cX12_findSets 10 = .ok (.getfield 40, 3) := by decide +kernel
theorem dX12_findSets_13 : decode cX12_findSets 13 = .ok (.iload_n 3, 1) := by decide +kernel
theorem dX12_findSets_14 : decode cX12_findSets 14 = .ok (.iload_n 3, 1) := by decide +kernel
theorem dX12_findSets_15 : decode cX12_findSets 15 = .ok (.ifCond .ne 7, 3) := by decide +kernel
theorem dX12_findSets_18 : decode cX12_findSets 18 = .ok (.lconst 1, 1) := by decide +kernel
theorem dX12_findSets_19 : decode cX12_findSets 19 = .ok (.goto 4, 3) := by decide +kernel
theorem dX12_findSets_22 : decode cX12_findSets 22 = .ok (.lconst 0, 1) := by decide +kernel
theorem dX12_findSets_23 : decode cX12_findSets 23 = .ok (.lastore, 1) := by decide +kernel
theorem dX12_findSets_24 : decode cX12_findSets 24 = .ok (.iinc 3 1, 3) := by decide +kernel
theorem dX12_findSets_27 : decode cX12_findSets 27 = .ok (.goto (-25), 3) := by decide +kernel
theorem dX12_findSets_30 : decode cX12_findSets 30 = .ok (.iconst 0, 1) := by decide +kernel
theorem dX12_findSets_31 : decode cX12_findSets 31 = .ok (.istore_n 3, 1) := by decide +kernel
theorem dX12_findSets_32 : decode cX12_findSets 32 = .ok (.iload_n 3, 1) := by decide +kernel
theorem dX12_findSets_33 : decode cX12_findSets 33 = .ok (.iload_n 1, 1) := by decide +kernel
theorem dX12_findSets_34 : decode cX12_findSets 34 = .ok (.if_icmp .ge 172, 3) := by decide +kernel
theorem dX12_findSets_37 : decode cX12_findSets 37 = .ok (.iconst 0, 1) := by decide +kernel
theorem dX12_findSets_38 : decode cX12_findSets 38 = .ok (.istore 4, 2) := by decide +kernel
theorem dX12_findSets_40 : decode cX12_findSets 40 = .ok (.iload 4, 2) := by decide +kernel
theorem dX12_findSets_42 : decode cX12_findSets 42 = .ok (.sipush 403, 3) := by decide +kernel
theorem dX12_findSets_45 : decode cX12_findSets 45 = .ok (.if_icmp .ge 17, 3) := by decide +kernel
theorem dX12_findSets_48 : decode cX12_findSets 48 = .ok (.aload_n 0, 1) := by decide +kernel
theorem dX12_findSets_49 : decode cX12_findSets 49 = .ok (.getfield 44, 3) := by decide +kernel
theorem dX12_findSets_52 : decode cX12_findSets 52 = .ok (.iload 4, 2) := by decide +kernel
theorem dX12_findSets_54 : decode cX12_findSets 54 = .ok (.lconst 0, 1) := by decide +kernel
theorem dX12_findSets_55 : decode cX12_findSets 55 = .ok (.lastore, 1) := by decide +kernel
theorem dX12_findSets_56 : decode cX12_findSets 56 = .ok (.iinc 4 1, 3) := by decide +kernel
theorem dX12_findSets_59 : decode cX12_findSets 59 = .ok (.goto (-19), 3) := by decide +kernel
theorem dX12_findSets_62 : decode cX12_findSets 62 = .ok (.iconst 0, 1) := by decide +kernel
theorem dX12_findSets_63 : decode cX12_findSets 63 = .ok (.istore 4, 2) := by decide +kernel
theorem dX12_findSets_65 : decode cX12_findSets 65 = .ok (.iload 4, 2) := by decide +kernel
theorem dX12_findSets_67 : decode cX12_findSets 67 = .ok (.bipush 12, 2) := by decide +kernel
theorem dX12_findSets_69 : decode cX12_findSets 69 = .ok (.if_icmp .gt 100, 3) := by decide +kernel
theorem dX12_findSets_72 : decode cX12_findSets 72 = .ok (.iconst 0, 1) := by decide +kernel
theorem dX12_findSets_73 : decode cX12_findSets 73 = .ok (.istore 5, 2) := by decide +kernel
theorem dX12_findSets_75 : decode cX12_findSets 75 = .ok (.iload 5, 2) := by decide +kernel
theorem dX12_findSets_77 : decode cX12_findSets 77 = .ok (.bipush 31, 2) := by decide +kernel
theorem dX12_findSets_79 : decode cX12_findSets 79 = .ok (.if_icmp .ge 84, 3) := by decide +kernel
theorem dX12_findSets_82 : decode cX12_findSets 82 = .ok (.aload_n 0, 1) := by decide +kernel
theorem dX12_findSets_83 : decode cX12_findSets 83 = .ok (.getfield 40, 3) := by decide +kernel
theorem dX12_findSets_86 : decode cX12_findSets 86 = .ok (.bipush 31, 2) := by decide +kernel
theorem dX12_findSets_88 : decode cX12_findSets 88 = .ok (.iload 4, 2) := by decide +kernel
theorem dX12_findSets_90 : decode cX12_findSets 90 = .ok (.imul, 1) := by decide +kernel
theorem dX12_findSets_91 : decode cX12_findSets 91 = .ok (.iload 5, 2) := by decide +kernel
theorem dX12_findSets_93 : decode cX12_findSets 93 = .ok (.iadd, 1) := by decide +kernel
theorem dX12_findSets_94 : decode cX12_findSets 94 = .ok (.laload, 1) := by decide +kernel
theorem dX12_findSets_95 : decode cX12_findSets 95 = .ok (.lstore 6, 2) := by decide +kernel
theorem dX12_findSets_97 : decode cX12_findSets 97 = .ok (.iload 4, 2) := by decide +kernel
theorem dX12_findSets_99 : decode cX12_findSets 99 = .ok (.bipush 12, 2) := by decide +kernel
theorem dX12_findSets_101 : decode cX12_findSets 101 = .ok (.if_icmp .ge 21, 3) := by decide +kernel
theorem dX12_findSets_104 : decode cX12_findSets 104 = .ok (.aload_n 0, 1) := by decide +kernel
theorem dX12_findSets_105 : decode cX12_findSets 105 = .ok (.getfield 44, 3) := by decide +kernel
theorem dX12_findSets_108 : decode cX12_findSets 108 = .ok (.bipush 31, 2) := by decide +kernel
theorem dX12_findSets_110 : decode cX12_findSets 110 = .ok (.iload 4, 2) := by decide +kernel
theorem dX12_findSets_112 : decode cX12_findSets 112 = .ok (.imul, 1) := by decide +kernel
theorem dX12_findSets_113 : decode cX12_findSets 113 = .ok (.bipush 31, 2) := by decide +kernel
theorem dX12_findSets_115 : decode cX12_findSets 115 = .ok (.iadd, 1) := by decide +kernel
theorem dX12_findSets_116 : decode cX12_findSets 116 = .ok (.dup2, 1) := by decide +kernel
theorem dX12_findSets_117 : decode cX12_findSets 117 = .ok (.laload, 1) := by decide +kernel
theorem dX12_findSets_118 : decode cX12_findSets 118 = .ok (.lload 6, 2) := by decide +kernel
theorem dX12_findSets_120 : decode cX12_findSets 120 = .ok (.ladd, 1) := by decide +kernel
theorem dX12_findSets_121 : decode cX12_findSets 121 = .ok (.lastore, 1) := by decide +kernel
theorem dX12_findSets_122 : decode cX12_findSets 122 = .ok (.iload 5, 2) := by decide +kernel
theorem dX12_findSets_124 : decode cX12_findSets 124 = .ok (.iconst 1, 1) := by decide +kernel
theorem dX12_findSets_125 : decode cX12_findSets 125 = .ok (.iadd, 1) := by decide +kernel
theorem dX12_findSets_126 : decode cX12_findSets 126 = .ok (.iload_n 2, 1) := by decide +kernel
theorem dX12_findSets_127 : decode cX12_findSets 127 = .ok (.if_icmp .ge 30, 3) := by decide +kernel
theorem dX12_findSets_130 : decode cX12_findSets 130 = .ok (.iload 5, 2) := by decide +kernel
theorem dX12_findSets_132 : decode cX12_findSets 132 = .ok (.bipush 30, 2) := by decide +kernel
theorem dX12_findSets_134 : decode cX12_findSets 134 = .ok (.if_icmp .ge 23, 3) := by decide +kernel
theorem dX12_findSets_137 : decode cX12_findSets 137 = .ok (.aload_n 0, 1) := by decide +kernel
theorem dX12_findSets_138 : decode cX12_findSets 138 = .ok (.getfield 44, 3) := by decide +kernel
theorem dX12_findSets_141 : decode cX12_findSets 141 = .ok (.bipush 31, 2) := by decide +kernel
theorem dX12_findSets_143 : decode cX12_findSets 143 = .ok (.iload 4, 2) := by decide +kernel
theorem dX12_findSets_145 : decode cX12_findSets 145 = .ok (.imul, 1) := by decide +kernel
theorem dX12_findSets_146 : decode cX12_findSets 146 = .ok (.iload 5, 2) := by decide +kernel
theorem dX12_findSets_148 : decode cX12_findSets 148 = .ok (.iadd, 1) := by decide +kernel
theorem dX12_findSets_149 : decode cX12_findSets 149 = .ok (.iconst 1, 1) := by decide +kernel
theorem dX12_findSets_150 : decode cX12_findSets 150 = .ok (.iadd, 1) := by decide +kernel
theorem dX12_findSets_151 : decode cX12_findSets 151 = .ok (.dup2, 1) := by decide +kernel
theorem dX12_findSets_152 : decode cX12_findSets 152 = .ok (.laload, 1) := by decide +kernel
theorem dX12_findSets_153 : decode cX12_findSets 153 = .ok (.lload 6, 2) := by decide +kernel
theorem dX12_findSets_155 : decode cX12_findSets 155 = .ok (.ladd, 1) := by decide +kernel
theorem dX12_findSets_156 : decode cX12_findSets 156 = .ok (.lastore, 1) := by decide +kernel
theorem dX12_findSets_157 : decode cX12_findSets 157 = .ok (.iinc 5 1, 3) := by decide +kernel
theorem dX12_findSets_160 : decode cX12_findSets 160 = .ok (.goto (-85), 3) := by decide +kernel
theorem dX12_findSets_163 : decode cX12_findSets 163 = .ok (.iinc 4 1, 3) := by decide +kernel
theorem dX12_findSets_166 : decode cX12_findSets 166 = .ok (.goto (-101), 3) := by decide +kernel
theorem dX12_findSets_169 : decode cX12_findSets 169 = .ok (.iconst 0, 1) := by decide +kernel
theorem dX12_findSets_170 : decode cX12_findSets 170 = .ok (.istore 4, 2) := by decide +kernel
theorem dX12_findSets_172 : decode cX12_findSets 172 = .ok (.iload 4, 2) := by decide +kernel
theorem dX12_findSets_174 : decode cX12_findSets 174 = .ok (.sipush 403, 3) := by decide +kernel
theorem dX12_findSets_177 : decode cX12_findSets 177 = .ok (.if_icmp .ge 23, 3) := by decide +kernel
theorem dX12_findSets_180 : decode cX12_findSets 180 = .ok (.aload_n 0, 1) := by decide +kernel
theorem dX12_findSets_181 : decode cX12_findSets 181 = .ok (.getfield 40, 3) := by decide +kernel
theorem dX12_findSets_184 : decode cX12_findSets 184 = .ok (.iload 4, 2) := by decide +kernel
theorem dX12_findSets_186 : decode cX12_findSets 186 = .ok (.aload_n 0, 1) := by decide +kernel
theorem dX12_findSets_187 : decode cX12_findSets 187 = .ok (.getfield 44, 3) := by decide +kernel
theorem dX12_findSets_190 : decode cX12_findSets 190 = .ok (.iload 4, 2) := by decide +kernel
theorem dX12_findSets_192 : decode cX12_findSets 192 = .ok (.laload, 1) := by decide +kernel
theorem dX12_findSets_193 : decode cX12_findSets 193 = .ok (.lastore, 1) := by decide +kernel
theorem dX12_findSets_194 : decode cX12_findSets 194 = .ok (.iinc 4 1, 3) := by decide +kernel
theorem dX12_findSets_197 : decode cX12_findSets 197 = .ok (.goto (-25), 3) := by decide +kernel
theorem dX12_findSets_200 : decode cX12_findSets 200 = .ok (.iinc 3 1, 3) := by decide +kernel
theorem dX12_findSets_203 : decode cX12_findSets 203 = .ok (.goto (-171), 3) := by decide +kernel
theorem dX12_findSets_206 : decode cX12_findSets 206 = .ok (.return_, 1) := by decide +kernel
theorem dX12_chance_0 : decode cX12_chance 0 = .ok (.aload_n 0, 1) := by decide +kernel
theorem dX12_chance_1 : decode cX12_chance 1 = .ok (.iload_n 1, 1) := by decide +kernel
theorem dX12_chance_2 : decode cX12_chance 2 = .ok (.iload_n 2, 1) := by decide +kernel
theorem dX12_chance_3 : decode cX12_chance 3 = .ok (.iconst 1, 1) := by decide +kernel
theorem dX12_chance_4 : decode cX12_chance 4 = .ok (.invokevirtual 274, 3) := by decide +kernel
theorem dX12_chance_7 : decode cX12_chance 7 = .ok (.istore_n 3, 1) := by decide +kernel
theorem dX12_chance_8 : decode cX12_chance 8 = .ok (.iload_n 3, 1) := by decide +kernel
theorem dX12_chance_9 : decode cX12_chance 9 = .ok (.iconst 1, 1) := by decide +kernel
theorem dX12_chance_10 : decode cX12_chance 10 = .ok (.if_icmp .eq 5, 3) := by decide +kernel
theorem dX12_chance_13 : decode cX12_chance 13 = .ok (.iload_n 3, 1) := by decide +kernel
theorem dX12_chance_14 : decode cX12_chance 14 = .ok (.ireturn, 1) := by decide +kernel
theorem dX12_chance_15 : decode cX12_chance 15 = .ok (.lconst 1, 1) := by decide +kernel
theorem dX12_chance_16 : decode cX12_chance 16 = .ok (.lstore 4, 2) := by decide +kernel
theorem dX12_chance_18 : decode cX12_chance 18 = .ok (.iconst 0, 1) := by decide +kernel
theorem dX12_chance_19 : decode cX12_chance 19 = .ok (.istore 6, 2) := by decide +kernel
theorem dX12_chance_21 : decode cX12_chance 21 = .ok (.iload 6, 2) := by decide +kernel
theorem dX12_chance_23 : decode cX12_chance 23 = .ok (.bipush 13, 2) := by decide +kernel
theorem dX12_chance_25 : decode cX12_chance 25 = .ok (.if_icmp .ge 26, 3) := by decide +kernel
theorem dX12_chance_28 : decode cX12_chance 28 = .ok (.aload_n 0, 1) := by decide +kernel
theorem dX12_chance_29 : decode cX12_chance 29 = .ok (.getfield 47, 3) := by decide +kernel
theorem dX12_chance_32 : decode cX12_chance 32 = .ok (.iload 6, 2) := by decide +kernel
theorem dX12_chance_34 : decode cX12_chance 34 = .ok (.iload 6, 2) := by decide +kernel
theorem dX12_chance_36 : decode cX12_chance 36 = .ok (.ifCond .ne 7, 3) := by decide +kernel
theorem dX12_chance_39 : decode cX12_chance 39 = .ok (.lconst 1, 1) := by decide +kernel
theorem dX12_chance_40 : decode cX12_chance 40 = .ok (.goto 4, 3) := by decide +kernel
theorem dX12_chance_43 : decode cX12_chance 43 = .ok (.lconst 0, 1) := by decide +kernel
theorem dX12_chance_44 : decode cX12_chance 44 = .ok (.lastore, 1) := by decide +kernel
theorem dX12_chance_45 : decode cX12_chance 45 = .ok (.iinc 6 1, 3) := by decide +kernel
theorem dX12_chance_48 : decode cX12_chance 48 = .ok (.goto (-27), 3) := by decide +kernel
theorem dX12_chance_51 : decode cX12_chance 51 = .ok (.iconst 0, 1) := by decide +kernel
theorem dX12_chance_52 : decode cX12_chance 52 = .ok (.istore 6, 2) := by decide +kernel
theorem dX12_chance_54 : decode cX12_chance 54 = .ok (.iload 6, 2) := by decide +kernel
theorem dX12_chance_56 : decode cX12_chance 56 = .ok (.aload_n 0, 1) := by decide +kernel
theorem dX12_chance_57 : decode cX12_chance 57 = .ok (.getfield 254, 3) := by decide +kernel
theorem dX12_chance_60 : decode cX12_chance 60 = .ok (.if_icmp .ge 68, 3) := by decide +kernel
theorem dX12_chance_63 : decode cX12_chance 63 = .ok (.lload 4, 2) := by decide +kernel
theorem dX12_chance_65 : decode cX12_chance 65 = .ok (.iload_n 2, 1) := by decide +kernel
theorem dX12_chance_66 : decode cX12_chance 66 = .ok (.i2l, 1) := by decide +kernel
theorem dX12_chance_67 : decode cX12_chance 67 = .ok (.lmul, 1) := by decide +kernel
theorem dX12_chance_68 : decode cX12_chance 68 = .ok (.lstore 4, 2) := by decide +kernel
theorem dX12_chance_70 : decode cX12_chance 70 = .ok (.bipush 12, 2) := by decide +kernel
theorem dX12_chance_72 : decode cX12_chance 72 = .ok (.istore 7, 2) := by decide +kernel
theorem dX12_chance_74 : decode cX12_chance 74 = .ok (.iload 7, 2) := by decide +kernel
theorem dX12_chance_76 : decode cX12_chance 76 = .ok (.ifCond .lt 46, 3) := by decide +kernel
theorem dX12_chance_79 : decode cX12_chance 79 = .ok (.aload_n 0, 1) := by decide +kernel
theorem dX12_chance_80 : decode cX12_chance 80 = .ok (.getfield 47, 3) := by decide +kernel
theorem dX12_chance_83 : decode cX12_chance 83 = .ok (.iload 7, 2) := by decide +kernel
theorem dX12_chance_85 : decode cX12_chance 85 = .ok (.iload 7, 2) := by decide +kernel
theorem dX12_chance_87 : decode cX12_chance 87 = .ok (.ifCond .ne 7, 3) := by decide +kernel
theorem dX12_chance_90 : decode cX12_chance 90 = .ok (.lconst 0, 1) := by decide +kernel
theorem dX12_chance_91 : decode cX12_chance 91 = .ok (.goto 24, 3) := by decide +kernel
theorem dX12_chance_94 : decode cX12_chance 94 = .ok (.iload 7, 2) := by decide +kernel
theorem dX12_chance_96 : decode cX12_chance 96 = .ok (.i2l, 1) := by decide +kernel
theorem dX12_chance_97 : decode cX12_chance 97 = .ok (.aload_n 0, 1) := by decide +kernel
theorem dX12_chance_98 : decode cX12_chance 98 = .ok (.getfield 47, 3) := by decide +kernel
theorem dX12_chance_101 : decode cX12_chance 101 = .ok (.iload 7, 2) := by decide +kernel
theorem dX12_chance_103 : decode cX12_chance 103 = .ok (.laload, 1) := by decide +kernel
theorem dX12_chance_104 : decode cX12_chance 104 = .ok (.aload_n 0, 1) := by decide +kernel
theorem dX12_chance_105 : decode cX12_chance 105 = .ok (.getfield 47, 3) := by decide +kernel
theorem dX12_chance_108 : decode cX12_chance 108 = .ok (.iload 7, 2) := by decide +kernel
theorem dX12_chance_110 : decode cX12_chance 110 = .ok (.iconst 1, 1) := by decide +kernel
theorem dX12_chance_111 : decode cX12_chance 111 = .ok (.isub, 1) := by decide +kernel
theorem dX12_chance_112 : decode cX12_chance 112 = .ok (.laload, 1) := by decide +kernel
theorem dX12_chance_113 : decode cX12_chance 113 = .ok (.ladd, 1) := by decide +kernel
theorem dX12_chance_114 : decode cX12_chance 114 = .ok (.lmul, 1) := by decide +kernel
theorem dX12_chance_115 : decode cX12_chance 115 = .ok (.lastore, 1) := by decide +kernel
theorem dX12_chance_116 : decode cX12_chance 116 = .ok (.iinc 7 (-1), 3) := by decide +kernel
theorem dX12_chance_119 : decode cX12_chance 119 = .ok (.goto (-45), 3) := by decide +kernel
theorem dX12_chance_122 : decode cX12_chance 122 = .ok (.iinc 6 1, 3) := by decide +kernel
theorem dX12_chance_125 : decode cX12_chance 125 = .ok (.goto (-71), 3) := by decide +kernel
theorem dX12_chance_128 : decode cX12_chance 128 = .ok (.aload_n 0, 1) := by decide +kernel
theorem dX12_chance_129 : decode cX12_chance 129 = .ok (.iload_n 2, 1) := by decide +kernel
theorem dX12_chance_130 : decode cX12_chance 130 = .ok (.aload_n 0, 1) := by decide +kernel
theorem dX12_chance_131 : decode cX12_chance 131 = .ok (.getfield 263, 3) := by decide +kernel
theorem dX12_chance_134 : decode cX12_chance 134 = .ok (.invokevirtual 278, 3) := by decide +kernel
theorem dX12_chance_137 : decode cX12_chance 137 = .ok (.lconst 0, 1) := by decide +kernel
theorem dX12_chance_138 : decode cX12_chance 138 = .ok (.lstore 6, 2) := by decide +kernel
theorem dX12_chance_140 : decode cX12_chance 140 = .ok (.iconst 1, 1) := by decide +kernel
theorem dX12_chance_141 : decode cX12_chance 141 = .ok (.istore 8, 2) := by decide +kernel
theorem dX12_chance_143 : decode cX12_chance 143 = .ok (.iload 8, 2) := by decide +kernel
theorem dX12_chance_145 : decode cX12_chance 145 = .ok (.bipush 12, 2) := by decide +kernel
theorem dX12_chance_147 : decode cX12_chance 147 = .ok (.if_icmp .gt 61, 3) := by decide +kernel
theorem dX12_chance_150 : decode cX12_chance 150 = .ok (.lconst 0, 1) := by decide +kernel
theorem dX12_chance_151 : decode cX12_chance 151 = .ok (.lstore 9, 2) := by decide +kernel
theorem dX12_chance_153 : decode cX12_chance 153 = .ok (.iconst 0, 1) := by decide +kernel
theorem dX12_chance_154 : decode cX12_chance 154 = .ok (.istore 11, 2) := by decide +kernel
theorem dX12_chance_156 : decode cX12_chance 156 = .ok (.iload 11, 2) := by decide +kernel
theorem dX12_chance_158 : decode cX12_chance 158 = .ok (.bipush 31, 2) := by decide +kernel
theorem dX12_chance_160 : decode cX12_chance 160 = .ok (.if_icmp .ge 27, 3) := by decide +kernel
theorem dX12_chance_163 : decode cX12_chance 163 = .ok (.lload 9, 2) := by decide +kernel
theorem dX12_chance_165 : decode cX12_chance 165 = .ok (.aload_n 0, 1) := by decide +kernel
theorem dX12_chance_166 : decode cX12_chance 166 = .ok (.getfield 40, 3) := by decide +kernel
theorem dX12_chance_169 : decode cX12_chance 169 = .ok (.bipush 31, 2) := by decide +kernel
theorem dX12_chance_171 : decode cX12_chance 171 = .ok (.iload 8, 2) := by decide +kernel
theorem dX12_chance_173 : decode cX12_chance 173 = .ok (.imul, 1) := by decide +kernel
theorem dX12_chance_174 : decode cX12_chance 174 = .ok (.iload 11, 2) := by decide +kernel
theorem dX12_chance_176 : decode cX12_chance 176 = .ok (.iadd, 1) := by decide +kernel
theorem dX12_chance_177 : decode cX12_chance 177 = .ok (.laload, 1) := by decide +kernel
theorem dX12_chance_178 : decode cX12_chance 178 = .ok (.ladd, 1) := by decide +kernel
theorem dX12_chance_179 : decode cX12_chance 179 = .ok (.lstore 9, 2) := by decide +kernel
theorem dX12_chance_181 : decode cX12_chance 181 = .ok (.iinc 11 1, 3) := by decide +kernel
theorem dX12_chance_184 : decode cX12_chance 184 = .ok (.goto (-28), 3) := by decide +kernel
theorem dX12_chance_187 : decode cX12_chance 187 = .ok (.lload 6, 2) := by decide +kernel
theorem dX12_chance_189 : decode cX12_chance 189 = .ok (.lload 9, 2) := by decide +kernel
theorem dX12_chance_191 : decode cX12_chance 191 = .ok (.aload_n 0, 1) := by decide +kernel
theorem dX12_chance_192 : decode cX12_chance 192 = .ok (.getfield 47, 3) := by decide +kernel
theorem dX12_chance_195 : decode cX12_chance 195 = .ok (.iload 8, 2) := by decide +kernel
theorem dX12_chance_197 : decode cX12_chance 197 = .ok (.laload, 1) := by decide +kernel
theorem dX12_chance_198 : decode cX12_chance 198 = .ok (.lmul, 1) := by decide +kernel
theorem dX12_chance_199 : decode cX12_chance 199 = .ok (.ladd, 1) := by decide +kernel
theorem dX12_chance_200 : decode cX12_chance 200 = .ok (.lstore 6, 2) := by decide +kernel
theorem dX12_chance_202 : decode cX12_chance 202 = .ok (.iinc 8 1, 3) := by decide +kernel
theorem dX12_chance_205 : decode cX12_chance 205 = .ok (.goto (-62), 3) := by decide +kernel
theorem dX12_chance_208 : decode cX12_chance 208 = .ok (.aload_n 0, 1) := by decide +kernel
theorem dX12_chance_209 : decode cX12_chance 209 = .ok (.getfield 263, 3) := by decide +kernel
theorem dX12_chance_212 : decode cX12_chance 212 = .ok (.ifCond .ne 12, 3) := by decide +kernel
theorem dX12_chance_215 : decode cX12_chance 215 = .ok (.aload_n 0, 1) := by decide +kernel
theorem dX12_chance_216 : decode cX12_chance 216 = .ok (.lconst 1, 1) := by decide +kernel
theorem dX12_chance_217 : decode cX12_chance 217 = .ok (.lconst 1, 1) := by decide +kernel
theorem dX12_chance_218 : decode cX12_chance 218 = .ok (.invokevirtual 281, 3) := by decide +kernel
theorem dX12_chance_221 : decode cX12_chance 221 = .ok (.goto 14, 3) := by decide +kernel
theorem dX12_chance_224 : decode cX12_chance 224 = .ok (.aload_n 0, 1) := by decide +kernel
theorem dX12_chance_225 : decode cX12_chance 225 = .ok (.lload 4, 2) := by decide +kernel
theorem dX12_chance_227 : decode cX12_chance 227 = .ok (.lload 6, 2) := by decide +kernel
theorem dX12_chance_229 : decode cX12_chance 229 = .ok (.lsub, 1) := by decide +kernel
theorem dX12_chance_230 : decode cX12_chance 230 = .ok (.lload 4, 2) := by decide +kernel
theorem dX12_chance_232 : decode cX12_chance 232 = .ok (.invokevirtual 281, 3) := by decide +kernel
theorem dX12_chance_235 : decode cX12_chance 235 = .ok (.ireturn, 1) := by decide +kernel
theorem dX12_said_0 : decode cX12_said 0 = .ok (.iload_n 1, 1) := by decide +kernel
theorem dX12_said_1 : decode cX12_said 1 = .ok (.invokestatic 103, 3) := by decide +kernel
theorem dX12_said_4 : decode cX12_said 4 = .ok (.ifCond .eq 27, 3) := by decide +kernel
theorem dX12_said_7 : decode cX12_said 7 = .ok (.iload_n 2, 1) := by decide +kernel
theorem dX12_said_8 : decode cX12_said 8 = .ok (.i2l, 1) := by decide +kernel
theorem dX12_said_9 : decode cX12_said 9 = .ok (.lconst 0, 1) := by decide +kernel
theorem dX12_said_10 : decode cX12_said 10 = .ok (.ldc2_w 106, 3) := by decide +kernel
theorem dX12_said_13 : decode cX12_said 13 = .ok (.invokestatic 97, 3) := by decide +kernel
theorem dX12_said_16 : decode cX12_said 16 = .ok (.ifCond .eq 15, 3) := by decide +kernel
theorem dX12_said_19 : decode cX12_said 19 = .ok (.iload_n 3, 1) := by decide +kernel
theorem dX12_said_20 : decode cX12_said 20 = .ok (.i2l, 1) := by decide +kernel
theorem dX12_said_21 : decode cX12_said 21 = .ok (.lconst 0, 1) := by decide +kernel
theorem dX12_said_22 : decode cX12_said 22 = .ok (.ldc2_w 106, 3) := by decide +kernel
theorem dX12_said_25 : decode cX12_said 25 = .ok (.invokestatic 97, 3) := by decide +kernel
theorem dX12_said_28 : decode cX12_said 28 = .ok (.ifCond .ne 6, 3) := by decide +kernel
theorem dX12_said_31 : decode cX12_said 31 = .ok (.bipush (-2), 2) := by decide +kernel
theorem dX12_said_33 : decode cX12_said 33 = .ok (.ireturn, 1) := by decide +kernel
theorem dX12_said_34 : decode cX12_said 34 = .ok (.aload_n 0, 1) := by decide +kernel
theorem dX12_said_35 : decode cX12_said 35 = .ok (.getfield 285, 3) := by decide +kernel
theorem dX12_said_38 : decode cX12_said 38 = .ok (.bipush 20, 2) := by decide +kernel
theorem dX12_said_40 : decode cX12_said 40 = .ok (.if_icmp .ne 6, 3) := by decide +kernel
theorem dX12_said_43 : decode cX12_said 43 = .ok (.bipush (-4), 2) := by decide +kernel
theorem dX12_said_45 : decode cX12_said 45 = .ok (.ireturn, 1) := by decide +kernel
theorem dX12_said_46 : decode cX12_said 46 = .ok (.aload_n 0, 1) := by decide +kernel
theorem dX12_said_47 : decode cX12_said 47 = .ok (.getfield 50, 3) := by decide +kernel
theorem dX12_said_50 : decode cX12_said 50 = .ok (.iconst 3, 1) := by decide +kernel
theorem dX12_said_51 : decode cX12_said 51 = .ok (.aload_n 0, 1) := by decide +kernel
theorem dX12_said_52 : decode cX12_said 52 = .ok (.getfield 285, 3) := by decide +kernel
theorem dX12_said_55 : decode cX12_said 55 = .ok (.imul, 1) := by decide +kernel
theorem dX12_said_56 : decode cX12_said 56 = .ok (.iload_n 1, 1) := by decide +kernel
theorem dX12_said_57 : decode cX12_said 57 = .ok (.iastore, 1) := by decide +kernel
theorem dX12_said_58 : decode cX12_said 58 = .ok (.aload_n 0, 1) := by decide +kernel
theorem dX12_said_59 : decode cX12_said 59 = .ok (.getfield 50, 3) := by decide +kernel
theorem dX12_said_62 : decode cX12_said 62 = .ok (.iconst 3, 1) := by decide +kernel
theorem dX12_said_63 : decode cX12_said 63 = .ok (.aload_n 0, 1) := by decide +kernel
theorem dX12_said_64 : decode cX12_said 64 = .ok (.getfield 285, 3) := by decide +kernel
theorem dX12_said_67 : decode cX12_said 67 = .ok (.imul, 1) := by decide +kernel
theorem dX12_said_68 : decode cX12_said 68 = .ok (.iconst 1, 1) := by decide +kernel
theorem dX12_said_69 : decode cX12_said 69 = .ok (.iadd, 1) := by decide +kernel
theorem dX12_said_70 : decode cX12_said 70 = .ok (.iload_n 2, 1) := by decide +kernel
theorem dX12_said_71 : decode cX12_said 71 = .ok (.iastore, 1) := by decide +kernel
theorem dX12_said_72 : decode cX12_said 72 = .ok (.aload_n 0, 1) := by decide +kernel
theorem dX12_said_73 : decode cX12_said 73 = .ok (.getfield 50, 3) := by decide +kernel
theorem dX12_said_76 : decode cX12_said 76 = .ok (.iconst 3, 1) := by decide +kernel
theorem dX12_said_77 : decode cX12_said 77 = .ok (.aload_n 0, 1) := by decide +kernel
theorem dX12_said_78 : decode cX12_said 78 = .ok (.getfield 285, 3) := by decide +kernel
theorem dX12_said_81 : decode cX12_said 81 = .ok (.imul, 1) := by decide +kernel
theorem dX12_said_82 : decode cX12_said 82 = .ok (.iconst 2, 1) := by decide +kernel
theorem dX12_said_83 : decode cX12_said 83 = .ok (.iadd, 1) := by decide +kernel
theorem dX12_said_84 : decode cX12_said 84 = .ok (.iload_n 3, 1) := by decide +kernel
theorem dX12_said_85 : decode cX12_said 85 = .ok (.iastore, 1) := by decide +kernel
theorem dX12_said_86 : decode cX12_said 86 = .ok (.aload_n 0, 1) := by decide +kernel
theorem dX12_said_87 : decode cX12_said 87 = .ok (.dup, 1) := by decide +kernel
theorem dX12_said_88 : decode cX12_said 88 = .ok (.getfield 285, 3) := by decide +kernel
theorem dX12_said_91 : decode cX12_said 91 = .ok (.iconst 1, 1) := by decide +kernel
theorem dX12_said_92 : decode cX12_said 92 = .ok (.iadd, 1) := by decide +kernel
theorem dX12_said_93 : decode cX12_said 93 = .ok (.putfield 285, 3) := by decide +kernel
theorem dX12_said_96 : decode cX12_said 96 = .ok (.aload_n 0, 1) := by decide +kernel
theorem dX12_said_97 : decode cX12_said 97 = .ok (.getfield 285, 3) := by decide +kernel
theorem dX12_said_100 : decode cX12_said 100 = .ok (.ireturn, 1) := by decide +kernel
theorem dX12_sums_0 : decode cX12_sums 0 = .ok (.aload_n 0, 1) := by decide +kernel
theorem dX12_sums_1 : decode cX12_sums 1 = .ok (.lconst 0, 1) := by decide +kernel
theorem dX12_sums_2 : decode cX12_sums 2 = .ok (.putfield 288, 3) := by decide +kernel
theorem dX12_sums_5 : decode cX12_sums 5 = .ok (.aload_n 0, 1) := by decide +kernel
theorem dX12_sums_6 : decode cX12_sums 6 = .ok (.lconst 0, 1) := by decide +kernel
theorem dX12_sums_7 : decode cX12_sums 7 = .ok (.putfield 292, 3) := by decide +kernel
theorem dX12_sums_10 : decode cX12_sums 10 = .ok (.aload_n 0, 1) := by decide +kernel
theorem dX12_sums_11 : decode cX12_sums 11 = .ok (.lconst 0, 1) := by decide +kernel
theorem dX12_sums_12 : decode cX12_sums 12 = .ok (.putfield 295, 3) := by decide +kernel
theorem dX12_sums_15 : decode cX12_sums 15 = .ok (.aload_n 0, 1) := by decide +kernel
theorem dX12_sums_16 : decode cX12_sums 16 = .ok (.iconst 0, 1) := by decide +kernel
theorem dX12_sums_17 : decode cX12_sums 17 = .ok (.putfield 298, 3) := by decide +kernel
theorem dX12_sums_20 : decode cX12_sums 20 = .ok (.iconst 0, 1) := by decide +kernel
theorem dX12_sums_21 : decode cX12_sums 21 = .ok (.istore_n 2, 1) := by decide +kernel
theorem dX12_sums_22 : decode cX12_sums 22 = .ok (.iload_n 2, 1) := by decide +kernel
theorem dX12_sums_23 : decode cX12_sums 23 = .ok (.aload_n 0, 1) := by decide +kernel
theorem dX12_sums_24 : decode cX12_sums 24 = .ok (.getfield 285, 3) := by decide +kernel
theorem dX12_sums_27 : decode cX12_sums 27 = .ok (.if_icmp .ge 114, 3) := by decide +kernel
theorem dX12_sums_30 : decode cX12_sums 30 = .ok (.aload_n 0, 1) := by decide +kernel
theorem dX12_sums_31 : decode cX12_sums 31 = .ok (.getfield 50, 3) := by decide +kernel
theorem dX12_sums_34 : decode cX12_sums 34 = .ok (.iconst 3, 1) := by decide +kernel
theorem dX12_sums_35 : decode cX12_sums 35 = .ok (.iload_n 2, 1) := by decide +kernel
theorem dX12_sums_36 : decode cX12_sums 36 = .ok (.imul, 1) := by decide +kernel
theorem dX12_sums_37 : decode cX12_sums 37 = .ok (.iaload, 1) := by decide +kernel
theorem dX12_sums_38 : decode cX12_sums 38 = .ok (.iload_n 1, 1) := by decide +kernel
theorem dX12_sums_39 : decode cX12_sums 39 = .ok (.if_icmp .ne 96, 3) := by decide +kernel
theorem dX12_sums_42 : decode cX12_sums 42 = .ok (.aload_n 0, 1) := by decide +kernel
theorem dX12_sums_43 : decode cX12_sums 43 = .ok (.getfield 50, 3) := by decide +kernel
theorem dX12_sums_46 : decode cX12_sums 46 = .ok (.iconst 3, 1) := by decide +kernel
theorem dX12_sums_47 : decode cX12_sums 47 = .ok (.iload_n 2, 1) := by decide +kernel
theorem dX12_sums_48 : decode cX12_sums 48 = .ok (.imul, 1) := by decide +kernel
theorem dX12_sums_49 : decode cX12_sums 49 = .ok (.iconst 1, 1) := by decide +kernel
theorem dX12_sums_50 : decode cX12_sums 50 = .ok (.iadd, 1) := by decide +kernel
theorem dX12_sums_51 : decode cX12_sums 51 = .ok (.iaload, 1) := by decide +kernel
theorem dX12_sums_52 : decode cX12_sums 52 = .ok (.aload_n 0, 1) := by decide +kernel
theorem dX12_sums_53 : decode cX12_sums 53 = .ok (.getfield 50, 3) := by decide +kernel
theorem dX12_sums_56 : decode cX12_sums 56 = .ok (.iconst 3, 1) := by decide +kernel
theorem dX12_sums_57 : decode cX12_sums 57 = .ok (.iload_n 2, 1) := by decide +kernel
theorem dX12_sums_58 : decode cX12_sums 58 = .ok (.imul, 1) := by decide +kernel
theorem dX12_sums_59 : decode cX12_sums 59 = .ok (.iconst 2, 1) := by decide +kernel
theorem dX12_sums_60 : decode cX12_sums 60 = .ok (.iadd, 1) := by decide +kernel
theorem dX12_sums_61 : decode cX12_sums 61 = .ok (.iaload, 1) := by decide +kernel
theorem dX12_sums_62 : decode cX12_sums 62 = .ok (.isub, 1) := by decide +kernel
theorem dX12_sums_63 : decode cX12_sums 63 = .ok (.istore_n 3, 1) := by decide +kernel
theorem dX12_sums_64 : decode cX12_sums 64 = .ok (.aload_n 0, 1) := by decide +kernel
theorem dX12_sums_65 : decode cX12_sums 65 = .ok (.dup, 1) := by decide +kernel
theorem dX12_sums_66 : decode cX12_sums 66 = .ok (.getfield 288, 3) := by decide +kernel
theorem dX12_sums_69 : decode cX12_sums 69 = .ok (.aload_n 0, 1) := by decide +kernel
theorem dX12_sums_70 : decode cX12_sums 70 = .ok (.getfield 50, 3) := by decide +kernel
theorem dX12_sums_73 : decode cX12_sums 73 = .ok (.iconst 3, 1) := by decide +kernel
theorem dX12_sums_74 : decode cX12_sums 74 = .ok (.iload_n 2, 1) := by decide +kernel
theorem dX12_sums_75 : decode cX12_sums 75 = .ok (.imul, 1) := by decide +kernel
theorem dX12_sums_76 : decode cX12_sums 76 = .ok (.iconst 1, 1) := by decide +kernel
theorem dX12_sums_77 : decode cX12_sums 77 = .ok (.iadd, 1) := by decide +kernel
theorem dX12_sums_78 : decode cX12_sums 78 = .ok (.iaload, 1) := by decide +kernel
theorem dX12_sums_79 : decode cX12_sums 79 = .ok (.i2l, 1) := by decide +kernel
theorem dX12_sums_80 : decode cX12_sums 80 = .ok (.ladd, 1) := by decide +kernel
theorem dX12_sums_81 : decode cX12_sums 81 = .ok (.putfield 288, 3) := by decide +kernel
theorem dX12_sums_84 : decode cX12_sums 84 = .ok (.aload_n 0, 1) := by decide +kernel
theorem dX12_sums_85 : decode cX12_sums 85 = .ok (.dup, 1) := by decide +kernel
theorem dX12_sums_86 : decode cX12_sums 86 = .ok (.getfield 292, 3) := by decide +kernel
theorem dX12_sums_89 : decode cX12_sums 89 = .ok (.aload_n 0, 1) := by decide +kernel
theorem dX12_sums_90 : decode cX12_sums 90 = .ok (.getfield 50, 3) := by decide +kernel
theorem dX12_sums_93 : decode cX12_sums 93 = .ok (.iconst 3, 1) := by decide +kernel
theorem dX12_sums_94 : decode cX12_sums 94 = .ok (.iload_n 2, 1) := by decide +kernel
theorem dX12_sums_95 : decode cX12_sums 95 = .ok (.imul, 1) := by decide +kernel
theorem dX12_sums_96 : decode cX12_sums 96 = .ok (.iconst 2, 1) := by decide +kernel
theorem dX12_sums_97 : decode cX12_sums 97 = .ok (.iadd, 1) := by decide +kernel
theorem dX12_sums_98 : decode cX12_sums 98 = .ok (.iaload, 1) := by decide +kernel
theorem dX12_sums_99 : decode cX12_sums 99 = .ok (.i2l, 1) := by decide +kernel
theorem dX12_sums_100 : decode cX12_sums 100 = .ok (.ladd, 1) := by decide +kernel
theorem dX12_sums_101 : decode cX12_sums 101 = .ok (.putfield 292, 3) := by decide +kernel
theorem dX12_sums_104 : decode cX12_sums 104 = .ok (.aload_n 0, 1) := by decide +kernel
theorem dX12_sums_105 : decode cX12_sums 105 = .ok (.dup, 1) := by decide +kernel
theorem dX12_sums_106 : decode cX12_sums 106 = .ok (.getfield 295, 3) := by decide +kernel
theorem dX12_sums_109 : decode cX12_sums 109 = .ok (.iload_n 3, 1) := by decide +kernel
theorem dX12_sums_110 : decode cX12_sums 110 = .ok (.ifCond .ge 9, 3) := by decide +kernel
theorem dX12_sums_113 : decode cX12_sums 113 = .ok (.iload_n 3, 1) := by decide +kernel
theorem dX12_sums_114 : decode cX12_sums 114 = .ok (.ineg, 1) := by decide +kernel
theorem dX12_sums_115 : decode cX12_sums 115 = .ok (.i2l, 1) := by decide +kernel
theorem dX12_sums_116 : decode cX12_sums 116 = .ok (.goto 5, 3) := by decide +kernel
theorem dX12_sums_119 : decode cX12_sums 119 = .ok (.iload_n 3, 1) := by decide +kernel
theorem dX12_sums_120 : decode cX12_sums 120 = .ok (.i2l, 1) := by decide +kernel
theorem dX12_sums_121 : decode cX12_sums 121 = .ok (.ladd, 1) := by decide +kernel
theorem dX12_sums_122 : decode cX12_sums 122 = .ok (.putfield 295, 3) := by decide +kernel
theorem dX12_sums_125 : decode cX12_sums 125 = .ok (.aload_n 0, 1) := by decide +kernel
theorem dX12_sums_126 : decode cX12_sums 126 = .ok (.dup, 1) := by decide +kernel
theorem dX12_sums_127 : decode cX12_sums 127 = .ok (.getfield 298, 3) := by decide +kernel
theorem dX12_sums_130 : decode cX12_sums 130 = .ok (.iconst 1, 1) := by decide +kernel
theorem dX12_sums_131 : decode cX12_sums 131 = .ok (.iadd, 1) := by decide +kernel
theorem dX12_sums_132 : decode cX12_sums 132 = .ok (.putfield 298, 3) := by decide +kernel
theorem dX12_sums_135 : decode cX12_sums 135 = .ok (.iinc 2 1, 3) := by decide +kernel
theorem dX12_sums_138 : decode cX12_sums 138 = .ok (.goto (-116), 3) := by decide +kernel
theorem dX12_sums_141 : decode cX12_sums 141 = .ok (.return_, 1) := by decide +kernel
theorem dX12_agent_0 : decode cX12_agent 0 = .ok (.iload_n 1, 1) := by decide +kernel
theorem dX12_agent_1 : decode cX12_agent 1 = .ok (.invokestatic 103, 3) := by decide +kernel
theorem dX12_agent_4 : decode cX12_agent 4 = .ok (.ifCond .eq 13, 3) := by decide +kernel
theorem dX12_agent_7 : decode cX12_agent 7 = .ok (.iload_n 2, 1) := by decide +kernel
theorem dX12_agent_8 : decode cX12_agent 8 = .ok (.i2l, 1) := by decide +kernel
theorem dX12_agent_9 : decode cX12_agent 9 = .ok (.lconst 0, 1) := by decide +kernel
theorem dX12_agent_10 : decode cX12_agent 10 = .ok (.lconst 1, 1) := by decide +kernel
theorem dX12_agent_11 : decode cX12_agent 11 = .ok (.invokestatic 97, 3) := by decide +kernel
theorem dX12_agent_14 : decode cX12_agent 14 = .ok (.ifCond .ne 6, 3) := by decide +kernel
theorem dX12_agent_17 : decode cX12_agent 17 = .ok (.bipush (-2), 2) := by decide +kernel
theorem dX12_agent_19 : decode cX12_agent 19 = .ok (.ireturn, 1) := by decide +kernel
theorem dX12_agent_20 : decode cX12_agent 20 = .ok (.aload_n 0, 1) := by decide +kernel
theorem dX12_agent_21 : decode cX12_agent 21 = .ok (.iload_n 1, 1) := by decide +kernel
theorem dX12_agent_22 : decode cX12_agent 22 = .ok (.invokevirtual 301, 3) := by decide +kernel
theorem dX12_agent_25 : decode cX12_agent 25 = .ok (.aload_n 0, 1) := by decide +kernel
theorem dX12_agent_26 : decode cX12_agent 26 = .ok (.getfield 298, 3) := by decide +kernel
theorem dX12_agent_29 : decode cX12_agent 29 = .ok (.ifCond .eq 16, 3) := by decide +kernel
theorem dX12_agent_32 : decode cX12_agent 32 = .ok (.iload_n 2, 1) := by decide +kernel
theorem dX12_agent_33 : decode cX12_agent 33 = .ok (.ifCond .ne 15, 3) := by decide +kernel
theorem dX12_agent_36 : decode cX12_agent 36 = .ok (.aload_n 0, 1) := by decide +kernel
theorem dX12_agent_37 : decode cX12_agent 37 = .ok (.getfield 288, 3) := by decide +kernel
theorem dX12_agent_40 : decode cX12_agent 40 = .ok (.lconst 0, 1) := by decide +kernel
theorem dX12_agent_41 : decode cX12_agent 41 = .ok (.lcmp, 1) := by decide +kernel
theorem dX12_agent_42 : decode cX12_agent 42 = .ok (.ifCond .ne 6, 3) := by decide +kernel
theorem dX12_agent_45 : decode cX12_agent 45 = .ok (.bipush (-3), 2) := by decide +kernel
theorem dX12_agent_47 : decode cX12_agent 47 = .ok (.ireturn, 1) := by decide +kernel
theorem dX12_agent_48 : decode cX12_agent 48 = .ok (.iload_n 2, 1) := by decide +kernel
theorem dX12_agent_49 : decode cX12_agent 49 = .ok (.ifCond .ne 18, 3) := by decide +kernel
theorem dX12_agent_52 : decode cX12_agent 52 = .ok (.aload_n 0, 1) := by decide +kernel
theorem dX12_agent_53 : decode cX12_agent 53 = .ok (.aload_n 0, 1) := by decide +kernel
theorem dX12_agent_54 : decode cX12_agent 54 = .ok (.getfield 292, 3) := by decide +kernel
theorem dX12_agent_57 : decode cX12_agent 57 = .ok (.aload_n 0, 1) := by decide +kernel
theorem dX12_agent_58 : decode cX12_agent 58 = .ok (.getfield 288, 3) := by decide +kernel
theorem dX12_agent_61 : decode cX12_agent 61 = .ok (.invokevirtual 281, 3) := by decide +kernel
theorem dX12_agent_64 : decode cX12_agent 64 = .ok (.goto 16, 3) := by decide +kernel
theorem dX12_agent_67 : decode cX12_agent 67 = .ok (.aload_n 0, 1) := by decide +kernel
theorem dX12_agent_68 : decode cX12_agent 68 = .ok (.aload_n 0, 1) := by decide +kernel
theorem dX12_agent_69 : decode cX12_agent 69 = .ok (.getfield 295, 3) := by decide +kernel
theorem dX12_agent_72 : decode cX12_agent 72 = .ok (.aload_n 0, 1) := by decide +kernel
theorem dX12_agent_73 : decode cX12_agent 73 = .ok (.getfield 298, 3) := by decide +kernel
theorem dX12_agent_76 : decode cX12_agent 76 = .ok (.i2l, 1) := by decide +kernel
theorem dX12_agent_77 : decode cX12_agent 77 = .ok (.invokevirtual 281, 3) := by decide +kernel
theorem dX12_agent_80 : decode cX12_agent 80 = .ok (.ireturn, 1) := by decide +kernel
theorem dX12_putRight_0 : decode cX12_putRight 0 = .ok (.iload_n 1, 1) := by decide +kernel
theorem dX12_putRight_1 : decode cX12_putRight 1 = .ok (.invokestatic 103, 3) := by decide +kernel
theorem dX12_putRight_4 : decode cX12_putRight 4 = .ok (.ifCond .eq 15, 3) := by decide +kernel
theorem dX12_putRight_7 : decode cX12_putRight 7 = .ok (.iload_n 2, 1) := by decide +kernel
theorem dX12_putRight_8 : decode cX12_putRight 8 = .ok (.i2l, 1) := by decide +kernel
theorem dX12_putRight_9 : decode cX12_putRight 9 = .ok (.lconst 0, 1) := by decide +kernel
theorem dX12_putRight_10 : decode cX12_putRight 10 = .ok (.ldc2_w 106, 3) := by decide +kernel
theorem dX12_putRight_13 : decode cX12_putRight 13 = .ok (.invokestatic 97, 3) := by decide +kernel
theorem dX12_putRight_16 : decode cX12_putRight 16 = .ok (.ifCond .ne 6, 3) := by decide +kernel
theorem dX12_putRight_19 : decode cX12_putRight 19 = .ok (.bipush (-2), 2) := by decide +kernel
theorem dX12_putRight_21 : decode cX12_putRight 21 = .ok (.ireturn, 1) := by decide +kernel
theorem dX12_putRight_22 : decode cX12_putRight 22 = .ok (.aload_n 0, 1) := by decide +kernel
theorem dX12_putRight_23 : decode cX12_putRight 23 = .ok (.iload_n 1, 1) := by decide +kernel
theorem dX12_putRight_24 : decode cX12_putRight 24 = .ok (.invokevirtual 301, 3) := by decide +kernel
theorem dX12_putRight_27 : decode cX12_putRight 27 = .ok (.aload_n 0, 1) := by decide +kernel
theorem dX12_putRight_28 : decode cX12_putRight 28 = .ok (.getfield 288, 3) := by decide +kernel
theorem dX12_putRight_31 : decode cX12_putRight 31 = .ok (.lconst 0, 1) := by decide +kernel
theorem dX12_putRight_32 : decode cX12_putRight 32 = .ok (.lcmp, 1) := by decide +kernel
theorem dX12_putRight_33 : decode cX12_putRight 33 = .ok (.ifCond .ne 8, 3) := by decide +kernel
theorem dX12_putRight_36 : decode cX12_putRight 36 = .ok (.bipush (-3), 2) := by decide +kernel
theorem dX12_putRight_38 : decode cX12_putRight 38 = .ok (.goto 18, 3) := by decide +kernel
theorem dX12_putRight_41 : decode cX12_putRight 41 = .ok (.aload_n 0, 1) := by decide +kernel
theorem dX12_putRight_42 : decode cX12_putRight 42 = .ok (.iload_n 2, 1) := by decide +kernel
theorem dX12_putRight_43 : decode cX12_putRight 43 = .ok (.i2l, 1) := by decide +kernel
theorem dX12_putRight_44 : decode cX12_putRight 44 = .ok (.aload_n 0, 1) := by decide +kernel
theorem dX12_putRight_45 : decode cX12_putRight 45 = .ok (.getfield 292, 3) := by decide +kernel
theorem dX12_putRight_48 : decode cX12_putRight 48 = .ok (.lmul, 1) := by decide +kernel
theorem dX12_putRight_49 : decode cX12_putRight 49 = .ok (.aload_n 0, 1) := by decide +kernel
theorem dX12_putRight_50 : decode cX12_putRight 50 = .ok (.getfield 288, 3) := by decide +kernel
theorem dX12_putRight_53 : decode cX12_putRight 53 = .ok (.invokevirtual 281, 3) := by decide +kernel
theorem dX12_putRight_56 : decode cX12_putRight 56 = .ok (.ireturn, 1) := by decide +kernel
theorem dX12_front_0 : decode cX12_front 0 = .ok (.iload_n 1, 1) := by decide +kernel
theorem dX12_front_1 : decode cX12_front 1 = .ok (.i2l, 1) := by decide +kernel
theorem dX12_front_2 : decode cX12_front 2 = .ok (.lconst 0, 1) := by decide +kernel
theorem dX12_front_3 : decode cX12_front 3 = .ok (.ldc2_w 114, 3) := by decide +kernel
theorem dX12_front_6 : decode cX12_front 6 = .ok (.invokestatic 97, 3) := by decide +kernel
theorem dX12_front_9 : decode cX12_front 9 = .ok (.ifCond .eq 11, 3) := by decide +kernel
theorem dX12_front_12 : decode cX12_front 12 = .ok (.iload_n 2, 1) := by decide +kernel
theorem dX12_front_13 : decode cX12_front 13 = .ok (.iload_n 3, 1) := by decide +kernel
theorem dX12_front_14 : decode cX12_front 14 = .ok (.invokestatic 196, 3) := by decide +kernel
theorem dX12_front_17 : decode cX12_front 17 = .ok (.ifCond .ne 6, 3) := by decide +kernel
theorem dX12_front_20 : decode cX12_front 20 = .ok (.bipush (-2), 2) := by decide +kernel
theorem dX12_front_22 : decode cX12_front 22 = .ok (.ireturn, 1) := by decide +kernel
theorem dX12_front_23 : decode cX12_front 23 = .ok (.aload_n 0, 1) := by decide +kernel
theorem dX12_front_24 : decode cX12_front 24 = .ok (.getfield 53, 3) := by decide +kernel
theorem dX12_front_27 : decode cX12_front 27 = .ok (.iconst 2, 1) := by decide +kernel
theorem dX12_front_28 : decode cX12_front 28 = .ok (.iload_n 1, 1) := by decide +kernel
theorem dX12_front_29 : decode cX12_front 29 = .ok (.imul, 1) := by decide +kernel
theorem dX12_front_30 : decode cX12_front 30 = .ok (.iload_n 2, 1) := by decide +kernel
theorem dX12_front_31 : decode cX12_front 31 = .ok (.iastore, 1) := by decide +kernel
theorem dX12_front_32 : decode cX12_front 32 = .ok (.aload_n 0, 1) := by decide +kernel
theorem dX12_front_33 : decode cX12_front 33 = .ok (.getfield 53, 3) := by decide +kernel
theorem dX12_front_36 : decode cX12_front 36 = .ok (.iconst 2, 1) := by decide +kernel
theorem dX12_front_37 : decode cX12_front 37 = .ok (.iload_n 1, 1) := by decide +kernel
theorem dX12_front_38 : decode cX12_front 38 = .ok (.imul, 1) := by decide +kernel
theorem dX12_front_39 : decode cX12_front 39 = .ok (.iconst 1, 1) := by decide +kernel
theorem dX12_front_40 : decode cX12_front 40 = .ok (.iadd, 1) := by decide +kernel
theorem dX12_front_41 : decode cX12_front 41 = .ok (.iload_n 3, 1) := by decide +kernel
theorem dX12_front_42 : decode cX12_front 42 = .ok (.iastore, 1) := by decide +kernel
theorem dX12_front_43 : decode cX12_front 43 = .ok (.iconst 1, 1) := by decide +kernel
theorem dX12_front_44 : decode cX12_front 44 = .ok (.ireturn, 1) := by decide +kernel
theorem dX12_lost_0 : decode cX12_lost 0 = .ok (.iload_n 1, 1) := by decide +kernel
theorem dX12_lost_1 : decode cX12_lost 1 = .ok (.i2l, 1) := by decide +kernel
theorem dX12_lost_2 : decode cX12_lost 2 = .ok (.ldc2_w 108, 3) := by decide +kernel
theorem dX12_lost_5 : decode cX12_lost 5 = .ok (.ldc2_w 114, 3) := by decide +kernel
theorem dX12_lost_8 : decode cX12_lost 8 = .ok (.invokestatic 97, 3) := by decide +kernel
theorem dX12_lost_11 : decode cX12_lost 11 = .ok (.ifCond .ne 6, 3) := by decide +kernel
theorem dX12_lost_14 : decode cX12_lost 14 = .ok (.bipush (-2), 2) := by decide +kernel
theorem dX12_lost_16 : decode cX12_lost 16 = .ok (.ireturn, 1) := by decide +kernel
theorem dX12_lost_17 : decode cX12_lost 17 = .ok (.lconst 0, 1) := by decide +kernel
theorem dX12_lost_18 : decode cX12_lost 18 = .ok (.lstore_n 2, 1) := by decide +kernel
theorem dX12_lost_19 : decode cX12_lost 19 = .ok (.lconst 1, 1) := by decide +kernel
theorem dX12_lost_20 : decode cX12_lost 20 = .ok (.lstore 4, 2) := by decide +kernel
theorem dX12_lost_22 : decode cX12_lost 22 = .ok (.iconst 0, 1) := by decide +kernel
theorem dX12_lost_23 : decode cX12_lost 23 = .ok (.istore 6, 2) := by decide +kernel
theorem dX12_lost_25 : decode cX12_lost 25 = .ok (.iload 6, 2) := by decide +kernel
theorem dX12_lost_27 : decode cX12_lost 27 = .ok (.iconst 4, 1) := by decide +kernel
theorem dX12_lost_28 : decode cX12_lost 28 = .ok (.if_icmp .ge 120, 3) := by decide +kernel
theorem dX12_lost_31 : decode cX12_lost 31 = .ok (.lconst 0, 1) := by decide +kernel
theorem dX12_lost_32 : decode cX12_lost 32 = .ok (.lstore 7, 2) := by decide +kernel
theorem dX12_lost_34 : decode cX12_lost 34 = .ok (.iconst 0, 1) := by decide +kernel
theorem dX12_lost_35 : decode cX12_lost 35 = .ok (.istore 9, 2) := by decide +kernel
theorem dX12_lost_37 : decode cX12_lost 37 = .ok (.iload 9, 2) := by decide +kernel
theorem dX12_lost_39 : decode cX12_lost 39 = .ok (.aload_n 0, 1) := by decide +kernel
theorem dX12_lost_40 : decode cX12_lost 40 = .ok (.getfield 116, 3) := by decide +kernel
theorem dX12_lost_43 : decode cX12_lost 43 = .ok (.if_icmp .ge 41, 3) := by decide +kernel
theorem dX12_lost_46 : decode cX12_lost 46 = .ok (.lload 7, 2) := by decide +kernel
theorem dX12_lost_48 : decode cX12_lost 48 = .ok (.aload_n 0, 1) := by decide +kernel
theorem dX12_lost_49 : decode cX12_lost 49 = .ok (.iload 9, 2) := by decide +kernel
theorem dX12_lost_51 : decode cX12_lost 51 = .ok (.iconst 4, 1) := by decide +kernel
theorem dX12_lost_52 : decode cX12_lost 52 = .ok (.invokevirtual 122, 3) := by decide +kernel
theorem dX12_lost_55 : decode cX12_lost 55 = .ok (.iload 6, 2) := by decide +kernel
theorem dX12_lost_57 : decode cX12_lost 57 = .ok (.if_icmp .ne 17, 3) := by decide +kernel
theorem dX12_lost_60 : decode cX12_lost 60 = .ok (.aload_n 0, 1) := by decide +kernel
theorem dX12_lost_61 : decode cX12_lost 61 = .ok (.iload 9, 2) := by decide +kernel
theorem dX12_lost_63 : decode cX12_lost 63 = .ok (.iconst 5, 1) := by decide +kernel
theorem dX12_lost_64 : decode cX12_lost 64 = .ok (.invokevirtual 122, 3) := by decide +kernel
theorem dX12_lost_67 : decode cX12_lost 67 = .ok (.ifCond .ne 7, 3) := by decide +kernel
theorem dX12_lost_70 : decode cX12_lost 70 = .ok (.lconst 1, 1) := by decide +kernel
theorem dX12_lost_71 : decode cX12_lost 71 = .ok (.goto 4, 3) := by decide +kernel
theorem dX12_lost_74 : decode cX12_lost 74 = .ok (.lconst 0, 1) := by decide +kernel
theorem dX12_lost_75 : decode cX12_lost 75 = .ok (.ladd, 1) := by decide +kernel
theorem dX12_lost_76 : decode cX12_lost 76 = .ok (.lstore 7, 2) := by decide +kernel
theorem dX12_lost_78 : decode cX12_lost 78 = .ok (.iinc 9 1, 3) := by decide +kernel
theorem dX12_lost_81 : decode cX12_lost 81 = .ok (.goto (-44), 3) := by decide +kernel
theorem dX12_lost_84 : decode cX12_lost 84 = .ok (.iload_n 1, 1) := by decide +kernel
theorem dX12_lost_85 : decode cX12_lost 85 = .ok (.iconst (-1), 1) := by decide +kernel
theorem dX12_lost_86 : decode cX12_lost 86 = .ok (.if_icmp .eq 9, 3) := by decide +kernel
theorem dX12_lost_89 : decode cX12_lost 89 = .ok (.iload_n 1, 1) := by decide +kernel
theorem dX12_lost_90 : decode cX12_lost 90 = .ok (.iload 6, 2) := by decide +kernel
theorem dX12_lost_92 : decode cX12_lost 92 = .ok (.if_icmp .ne 50, 3) := by decide +kernel
theorem dX12_lost_95 : decode cX12_lost 95 = .ok (.lload_n 2, 1) := by decide +kernel
theorem dX12_lost_96 : decode cX12_lost 96 = .ok (.aload_n 0, 1) := by decide +kernel
theorem dX12_lost_97 : decode cX12_lost 97 = .ok (.getfield 53, 3) := by decide +kernel
theorem dX12_lost_100 : decode cX12_lost 100 = .ok (.iconst 2, 1) := by decide +kernel
theorem dX12_lost_101 : decode cX12_lost 101 = .ok (.iload 6, 2) := by decide +kernel
theorem dX12_lost_103 : decode cX12_lost 103 = .ok (.imul, 1) := by decide +kernel
theorem dX12_lost_104 : decode cX12_lost 104 = .ok (.iaload, 1) := by decide +kernel
theorem dX12_lost_105 : decode cX12_lost 105 = .ok (.i2l, 1) := by decide +kernel
theorem dX12_lost_106 : decode cX12_lost 106 = .ok (.lmul, 1) := by decide +kernel
theorem dX12_lost_107 : decode cX12_lost 107 = .ok (.lload 7, 2) := by decide +kernel
theorem dX12_lost_109 : decode cX12_lost 109 = .ok (.aload_n 0, 1) := by decide +kernel
theorem dX12_lost_110 : decode cX12_lost 110 = .ok (.getfield 53, 3) := by decide +kernel
theorem dX12_lost_113 : decode cX12_lost 113 = .ok (.iconst 2, 1) := by decide +kernel
theorem dX12_lost_114 : decode cX12_lost 114 = .ok (.iload 6, 2) := by decide +kernel
theorem dX12_lost_116 : decode cX12_lost 116 = .ok (.imul, 1) := by decide +kernel
theorem dX12_lost_117 : decode cX12_lost 117 = .ok (.iconst 1, 1) := by decide +kernel
theorem dX12_lost_118 : decode cX12_lost 118 = .ok (.iadd, 1) := by decide +kernel
theorem dX12_lost_119 : decode cX12_lost 119 = .ok (.iaload, 1) := by decide +kernel
theorem dX12_lost_120 : decode cX12_lost 120 = .ok (.i2l, 1) := by decide +kernel
theorem dX12_lost_121 : decode cX12_lost 121 = .ok (.lmul, 1) := by decide +kernel
theorem dX12_lost_122 : decode cX12_lost 122 = .ok (.lload 4, 2) := by decide +kernel
theorem dX12_lost_124 : decode cX12_lost 124 = .ok (.lmul, 1) := by decide +kernel
theorem dX12_lost_125 : decode cX12_lost 125 = .ok (.ladd, 1) := by decide +kernel
theorem dX12_lost_126 : decode cX12_lost 126 = .ok (.lstore_n 2, 1) := by decide +kernel
theorem dX12_lost_127 : decode cX12_lost 127 = .ok (.lload 4, 2) := by decide +kernel
theorem dX12_lost_129 : decode cX12_lost 129 = .ok (.aload_n 0, 1) := by decide +kernel
theorem dX12_lost_130 : decode cX12_lost 130 = .ok (.getfield 53, 3) := by decide +kernel
theorem dX12_lost_133 : decode cX12_lost 133 = .ok (.iconst 2, 1) := by decide +kernel
theorem dX12_lost_134 : decode cX12_lost 134 = .ok (.iload 6, 2) := by decide +kernel
theorem dX12_lost_136 : decode cX12_lost 136 = .ok (.imul, 1) := by decide +kernel
theorem dX12_lost_137 : decode cX12_lost 137 = .ok (.iaload, 1) := by decide +kernel
theorem dX12_lost_138 : decode cX12_lost 138 = .ok (.i2l, 1) := by decide +kernel
theorem dX12_lost_139 : decode cX12_lost 139 = .ok (.lmul, 1) := by decide +kernel
theorem dX12_lost_140 : decode cX12_lost 140 = .ok (.lstore 4, 2) := by decide +kernel
theorem dX12_lost_142 : decode cX12_lost 142 = .ok (.iinc 6 1, 3) := by decide +kernel
theorem dX12_lost_145 : decode cX12_lost 145 = .ok (.goto (-120), 3) := by decide +kernel
theorem dX12_lost_148 : decode cX12_lost 148 = .ok (.aload_n 0, 1) := by decide +kernel
theorem dX12_lost_149 : decode cX12_lost 149 = .ok (.lload_n 2, 1) := by decide +kernel
theorem dX12_lost_150 : decode cX12_lost 150 = .ok (.lload 4, 2) := by decide +kernel
theorem dX12_lost_152 : decode cX12_lost 152 = .ok (.invokevirtual 281, 3) := by decide +kernel
theorem dX12_lost_155 : decode cX12_lost 155 = .ok (.ireturn, 1) := by decide +kernel
theorem dX12_book_0 : decode cX12_book 0 = .ok (.iload_n 1, 1) := by decide +kernel
theorem dX12_book_1 : decode cX12_book 1 = .ok (.invokestatic 103, 3) := by decide +kernel
theorem dX12_book_4 : decode cX12_book 4 = .ok (.ifCond .eq 29, 3) := by decide +kernel
theorem dX12_book_7 : decode cX12_book 7 = .ok (.iload_n 2, 1) := by decide +kernel
theorem dX12_book_8 : decode cX12_book 8 = .ok (.iconst (-1), 1) := by decide +kernel
theorem dX12_book_9 : decode cX12_book 9 = .ok (.if_icmp .eq 15, 3) := by decide +kernel
theorem dX12_book_12 : decode cX12_book 12 = .ok (.iload_n 2, 1) := by decide +kernel
theorem dX12_book_13 : decode cX12_book 13 = .ok (.i2l, 1) := by decide +kernel
theorem dX12_book_14 : decode cX12_book 14 = .ok (.lconst 1, 1) := by decide +kernel
theorem dX12_book_15 : decode cX12_book 15 = .ok (.ldc2_w 151, 3) := by decide +kernel
theorem dX12_book_18 : decode cX12_book 18 = .ok (.invokestatic 97, 3) := by decide +kernel
theorem dX12_book_21 : decode cX12_book 21 = .ok (.ifCond .eq 12, 3) := by decide +kernel
theorem dX12_book_24 : decode cX12_book 24 = .ok (.iload_n 3, 1) := by decide +kernel
theorem dX12_book_25 : decode cX12_book 25 = .ok (.iload 4, 2) := by decide +kernel
theorem dX12_book_27 : decode cX12_book 27 = .ok (.invokestatic 145, 3) := by decide +kernel
theorem dX12_book_30 : decode cX12_book 30 = .ok (.ifCond .ne 6, 3) := by decide +kernel
theorem dX12_book_33 : decode cX12_book 33 = .ok (.bipush (-10), 2) := by decide +kernel
theorem dX12_book_35 : decode cX12_book 35 = .ok (.ireturn, 1) := by decide +kernel
theorem dX12_book_36 : decode cX12_book 36 = .ok (.aload_n 0, 1) := by decide +kernel
theorem dX12_book_37 : decode cX12_book 37 = .ok (.getfield 56, 3) := by decide +kernel
theorem dX12_book_40 : decode cX12_book 40 = .ok (.iconst 3, 1) := by decide +kernel
theorem dX12_book_41 : decode cX12_book 41 = .ok (.iload_n 1, 1) := by decide +kernel
theorem dX12_book_42 : decode cX12_book 42 = .ok (.imul, 1) := by decide +kernel
theorem dX12_book_43 : decode cX12_book 43 = .ok (.iaload, 1) := by decide +kernel
theorem dX12_book_44 : decode cX12_book 44 = .ok (.istore 5, 2) := by decide +kernel
theorem dX12_book_46 : decode cX12_book 46 = .ok (.aload_n 0, 1) := by decide +kernel
theorem dX12_book_47 : decode cX12_book 47 = .ok (.getfield 56, 3) := by decide +kernel
theorem dX12_book_50 : decode cX12_book 50 = .ok (.iconst 3, 1) := by decide +kernel
theorem dX12_book_51 : decode cX12_book 51 = .ok (.iload_n 1, 1) := by decide +kernel
theorem dX12_book_52 : decode cX12_book 52 = .ok (.imul, 1) := by decide +kernel
theorem dX12_book_53 : decode cX12_book 53 = .ok (.iload_n 2, 1) := by decide +kernel
theorem dX12_book_54 : decode cX12_book 54 = .ok (.iastore, 1) := by decide +kernel
theorem dX12_book_55 : decode cX12_book 55 = .ok (.aload_n 0, 1) := by decide +kernel
theorem dX12_book_56 : decode cX12_book 56 = .ok (.getfield 56, 3) := by decide +kernel
theorem dX12_book_59 : decode cX12_book 59 = .ok (.iconst 3, 1) := by decide +kernel
theorem dX12_book_60 : decode cX12_book 60 = .ok (.iload_n 1, 1) := by decide +kernel
theorem dX12_book_61 : decode cX12_book 61 = .ok (.imul, 1) := by decide +kernel
theorem dX12_book_62 : decode cX12_book 62 = .ok (.iconst 1, 1) := by decide +kernel
theorem dX12_book_63 : decode cX12_book 63 = .ok (.iadd, 1) := by decide +kernel
theorem dX12_book_64 : decode cX12_book 64 = .ok (.iload_n 3, 1) := by decide +kernel
theorem dX12_book_65 : decode cX12_book 65 = .ok (.iastore, 1) := by decide +kernel
theorem dX12_book_66 : decode cX12_book 66 = .ok (.aload_n 0, 1) := by decide +kernel
theorem dX12_book_67 : decode cX12_book 67 = .ok (.getfield 56, 3) := by decide +kernel
theorem dX12_book_70 : decode cX12_book 70 = .ok (.iconst 3, 1) := by decide +kernel
theorem dX12_book_71 : decode cX12_book 71 = .ok (.iload_n 1, 1) := by decide +kernel
theorem dX12_book_72 : decode cX12_book 72 = .ok (.imul, 1) := by decide +kernel
theorem dX12_book_73 : decode cX12_book 73 = .ok (.iconst 2, 1) := by decide +kernel
theorem dX12_book_74 : decode cX12_book 74 = .ok (.iadd, 1) := by decide +kernel
theorem dX12_book_75 : decode cX12_book 75 = .ok (.iload 4, 2) := by decide +kernel
theorem dX12_book_77 : decode cX12_book 77 = .ok (.iastore, 1) := by decide +kernel
theorem dX12_book_78 : decode cX12_book 78 = .ok (.iload 5, 2) := by decide +kernel
theorem dX12_book_80 : decode cX12_book 80 = .ok (.ireturn, 1) := by decide +kernel
theorem dX12_held_0 : decode cX12_held 0 = .ok (.iload_n 1, 1) := by decide +kernel
theorem dX12_held_1 : decode cX12_held 1 = .ok (.iload_n 2, 1) := by decide +kernel
theorem dX12_held_2 : decode cX12_held 2 = .ok (.invokestatic 196, 3) := by decide +kernel
theorem dX12_held_5 : decode cX12_held 5 = .ok (.ifCond .eq 13, 3) := by decide +kernel
theorem dX12_held_8 : decode cX12_held 8 = .ok (.iload_n 3, 1) := by decide +kernel
theorem dX12_held_9 : decode cX12_held 9 = .ok (.i2l, 1) := by decide +kernel
theorem dX12_held_10 : decode cX12_held 10 = .ok (.lconst 0, 1) := by decide +kernel
theorem dX12_held_11 : decode cX12_held 11 = .ok (.lconst 1, 1) := by decide +kernel
theorem dX12_held_12 : decode cX12_held 12 = .ok (.invokestatic 97, 3) := by decide +kernel
theorem dX12_held_15 : decode cX12_held 15 = .ok (.ifCond .ne 6, 3) := by decide +kernel
theorem dX12_held_18 : decode cX12_held 18 = .ok (.bipush (-2), 2) := by decide +kernel
theorem dX12_held_20 : decode cX12_held 20 = .ok (.ireturn, 1) := by decide +kernel
theorem dX12_held_21 : decode cX12_held 21 = .ok (.iconst 0, 1) := by decide +kernel
theorem dX12_held_22 : decode cX12_held 22 = .ok (.istore 4, 2) := by decide +kernel
theorem dX12_held_24 : decode cX12_held 24 = .ok (.iconst 0, 1) := by decide +kernel
theorem dX12_held_25 : decode cX12_held 25 = .ok (.istore 5, 2) := by decide +kernel
theorem dX12_held_27 : decode cX12_held 27 = .ok (.iload 5, 2) := by decide +kernel
theorem dX12_held_29 : decode cX12_held 29 = .ok (.bipush 6, 2) := by decide +kernel
theorem dX12_held_31 : decode cX12_held 31 = .ok (.if_icmp .ge 106, 3) := by decide +kernel
theorem dX12_held_34 : decode cX12_held 34 = .ok (.aload_n 0, 1) := by decide +kernel
theorem dX12_held_35 : decode cX12_held 35 = .ok (.getfield 56, 3) := by decide +kernel
theorem dX12_held_38 : decode cX12_held 38 = .ok (.iconst 3, 1) := by decide +kernel
theorem dX12_held_39 : decode cX12_held 39 = .ok (.iload 5, 2) := by decide +kernel
theorem dX12_held_41 : decode cX12_held 41 = .ok (.imul, 1) := by decide +kernel
theorem dX12_held_42 : decode cX12_held 42 = .ok (.iaload, 1) := by decide +kernel
theorem dX12_held_43 : decode cX12_held 43 = .ok (.iconst (-1), 1) := by decide +kernel
theorem dX12_held_44 : decode cX12_held 44 = .ok (.if_icmp .eq 87, 3) := by decide +kernel
theorem dX12_held_47 : decode cX12_held 47 = .ok (.aload_n 0, 1) := by decide +kernel
theorem dX12_held_48 : decode cX12_held 48 = .ok (.iload 5, 2) := by decide +kernel
theorem dX12_held_50 : decode cX12_held 50 = .ok (.aload_n 0, 1) := by decide +kernel
theorem dX12_held_51 : decode cX12_held 51 = .ok (.getfield 56, 3) := by decide +kernel
theorem dX12_held_54 : decode cX12_held 54 = .ok (.iconst 3, 1) := by decide +kernel
theorem dX12_held_55 : decode cX12_held 55 = .ok (.iload 5, 2) := by decide +kernel
theorem dX12_held_57 : decode cX12_held 57 = .ok (.imul, 1) := by decide +kernel
theorem dX12_held_58 : decode cX12_held 58 = .ok (.iconst 1, 1) := by decide +kernel
theorem dX12_held_59 : decode cX12_held 59 = .ok (.iadd, 1) := by decide +kernel
theorem dX12_held_60 : decode cX12_held 60 = .ok (.iaload, 1) := by decide +kernel
theorem dX12_held_61 : decode cX12_held 61 = .ok (.aload_n 0, 1) := by decide +kernel
theorem dX12_held_62 : decode cX12_held 62 = .ok (.getfield 56, 3) := by decide +kernel
theorem dX12_held_65 : decode cX12_held 65 = .ok (.iconst 3, 1) := by decide +kernel
theorem dX12_held_66 : decode cX12_held 66 = .ok (.iload 5, 2) := by decide +kernel
theorem dX12_held_68 : decode cX12_held 68 = .ok (.imul, 1) := by decide +kernel
theorem dX12_held_69 : decode cX12_held 69 = .ok (.iconst 2, 1) := by decide +kernel
theorem dX12_held_70 : decode cX12_held 70 = .ok (.iadd, 1) := by decide +kernel
theorem dX12_held_71 : decode cX12_held 71 = .ok (.iaload, 1) := by decide +kernel
theorem dX12_held_72 : decode cX12_held 72 = .ok (.iconst 1, 1) := by decide +kernel
theorem dX12_held_73 : decode cX12_held 73 = .ok (.invokevirtual 180, 3) := by decide +kernel
theorem dX12_held_76 : decode cX12_held 76 = .ok (.iconst 1, 1) := by decide +kernel
theorem dX12_held_77 : decode cX12_held 77 = .ok (.if_icmp .ne 54, 3) := by decide +kernel
theorem dX12_held_80 : decode cX12_held 80 = .ok (.aload_n 0, 1) := by decide +kernel
theorem dX12_held_81 : decode cX12_held 81 = .ok (.iload_n 1, 1) := by decide +kernel
theorem dX12_held_82 : decode cX12_held 82 = .ok (.iload_n 2, 1) := by decide +kernel
theorem dX12_held_83 : decode cX12_held 83 = .ok (.invokevirtual 199, 3) := by decide +kernel
theorem dX12_held_86 : decode cX12_held 86 = .ok (.iload 4, 2) := by decide +kernel
theorem dX12_held_88 : decode cX12_held 88 = .ok (.aload_n 0, 1) := by decide +kernel
theorem dX12_held_89 : decode cX12_held 89 = .ok (.getfield 56, 3) := by decide +kernel
theorem dX12_held_92 : decode cX12_held 92 = .ok (.iconst 3, 1) := by decide +kernel
theorem dX12_held_93 : decode cX12_held 93 = .ok (.iload 5, 2) := by decide +kernel
theorem dX12_held_95 : decode cX12_held 95 = .ok (.imul, 1) := by decide +kernel
theorem dX12_held_96 : decode cX12_held 96 = .ok (.iaload, 1) := by decide +kernel
theorem dX12_held_97 : decode cX12_held 97 = .ok (.i2l, 1) := by decide +kernel
theorem dX12_held_98 : decode cX12_held 98 = .ok (.aload_n 0, 1) := by decide +kernel
theorem dX12_held_99 : decode cX12_held 99 = .ok (.getfield 190, 3) := by decide +kernel
theorem dX12_held_102 : decode cX12_held 102 = .ok (.i2l, 1) := by decide +kernel
theorem dX12_held_103 : decode cX12_held 103 = .ok (.aload_n 0, 1) := by decide +kernel
theorem dX12_held_104 : decode cX12_held 104 = .ok (.getfield 193, 3) := by decide +kernel
theorem dX12_held_107 : decode cX12_held 107 = .ok (.i2l, 1) := by decide +kernel
theorem dX12_held_108 : decode cX12_held 108 = .ok (.invokestatic 97, 3) := by decide +kernel
theorem dX12_held_111 : decode cX12_held 111 = .ok (.iload_n 3, 1) := by decide +kernel
theorem dX12_held_112 : decode cX12_held 112 = .ok (.ifCond .ne 7, 3) := by decide +kernel
theorem dX12_held_115 : decode cX12_held 115 = .ok (.iconst 1, 1) := by decide +kernel
theorem dX12_held_116 : decode cX12_held 116 = .ok (.goto 4, 3) := by decide +kernel
theorem dX12_held_119 : decode cX12_held 119 = .ok (.iconst 0, 1) := by decide +kernel
theorem dX12_held_120 : decode cX12_held 120 = .ok (.if_icmp .ne 7, 3) := by decide +kernel
theorem dX12_held_123 : decode cX12_held 123 = .ok (.iconst 1, 1) := by decide +kernel
theorem dX12_held_124 : decode cX12_held 124 = .ok (.goto 4, 3) := by decide +kernel
theorem dX12_held_127 : decode cX12_held 127 = .ok (.iconst 0, 1) := by decide +kernel
theorem dX12_held_128 : decode cX12_held 128 = .ok (.iadd, 1) := by decide +kernel
theorem dX12_held_129 : decode cX12_held 129 = .ok (.istore 4, 2) := by decide +kernel
theorem dX12_held_131 : decode cX12_held 131 = .ok (.iinc 5 1, 3) := by decide +kernel
theorem dX12_held_134 : decode cX12_held 134 = .ok (.goto (-107), 3) := by decide +kernel
theorem dX12_held_137 : decode cX12_held 137 = .ok (.iload 4, 2) := by decide +kernel
theorem dX12_held_139 : decode cX12_held 139 = .ok (.ireturn, 1) := by decide +kernel
theorem dX12_countOf_0 : decode cX12_countOf 0 = .ok (.iconst 0, 1) := by decide +kernel
theorem dX12_countOf_1 : decode cX12_countOf 1 = .ok (.istore_n 2, 1) := by decide +kernel
theorem dX12_countOf_2 : decode cX12_countOf 2 = .ok (.iconst 0, 1) := by decide +kernel
theorem dX12_countOf_3 : decode cX12_countOf 3 = .ok (.istore_n 3, 1) := by decide +kernel
theorem dX12_countOf_4 : decode cX12_countOf 4 = .ok (.iload_n 3, 1) := by decide +kernel
theorem dX12_countOf_5 : decode cX12_countOf 5 = .ok (.bipush 60, 2) := by decide +kernel
theorem dX12_countOf_7 : decode cX12_countOf 7 = .ok (.if_icmp .ge 62, 3) := by decide +kernel
theorem dX12_countOf_10 : decode cX12_countOf 10 = .ok (.iload_n 2, 1) := by decide +kernel
theorem dX12_countOf_11 : decode cX12_countOf 11 = .ok (.iload_n 1, 1) := by decide +kernel
theorem dX12_countOf_12 : decode cX12_countOf 12 = .ok (.iconst 1, 1) := by decide +kernel
theorem dX12_countOf_13 : decode cX12_countOf 13 = .ok (.if_icmp .ne 20, 3) := by decide +kernel
theorem dX12_countOf_16 : decode cX12_countOf 16 = .ok (.iload_n 3, 1) := by decide +kernel
theorem dX12_countOf_17 : decode cX12_countOf 17 = .ok (.aload_n 0, 1) := by decide +kernel
theorem dX12_countOf_18 : decode cX12_countOf 18 = .ok (.getfield 116, 3) := by decide +kernel
theorem dX12_countOf_21 : decode cX12_countOf 21 = .ok (.if_icmp .ge 12, 3) := by decide +kernel
theorem dX12_countOf_24 : decode cX12_countOf 24 = .ok (.aload_n 0, 1) := by decide +kernel
theorem dX12_countOf_25 : decode cX12_countOf 25 = .ok (.iload_n 3, 1) := by decide +kernel
theorem dX12_countOf_26 : decode cX12_countOf 26 = .ok (.iconst 5, 1) := by decide +kernel
theorem dX12_countOf_27 : decode cX12_countOf 27 = .ok (.invokevirtual 122, 3) := by decide +kernel
theorem dX12_countOf_30 : decode cX12_countOf 30 = .ok (.goto 31, 3) := by decide +kernel
theorem dX12_countOf_33 : decode cX12_countOf 33 = .ok (.iload_n 1, 1) := by decide +kernel
theorem dX12_countOf_34 : decode cX12_countOf 34 = .ok (.iconst 4, 1) := by decide +kernel
theorem dX12_countOf_35 : decode cX12_countOf 35 = .ok (.if_icmp .ne 25, 3) := by decide +kernel
theorem dX12_countOf_38 : decode cX12_countOf 38 = .ok (.iload_n 3, 1) := by decide +kernel
theorem dX12_countOf_39 : decode cX12_countOf 39 = .ok (.bipush 6, 2) := by decide +kernel
theorem dX12_countOf_41 : decode cX12_countOf 41 = .ok (.if_icmp .ge 19, 3) := by decide +kernel
theorem dX12_countOf_44 : decode cX12_countOf 44 = .ok (.aload_n 0, 1) := by decide +kernel
theorem dX12_countOf_45 : decode cX12_countOf 45 = .ok (.getfield 56, 3) := by decide +kernel
theorem dX12_countOf_48 : decode cX12_countOf 48 = .ok (.iconst 3, 1) := by decide +kernel
theorem dX12_countOf_49 : decode cX12_countOf 49 = .ok (.iload_n 3, 1) := by decide +kernel
theorem dX12_countOf_50 : decode cX12_countOf 50 = .ok (.imul, 1) := by decide +kernel
theorem dX12_countOf_51 : decode cX12_countOf 51 = .ok (.iaload, 1) := by decide +kernel
theorem dX12_countOf_52 : decode cX12_countOf 52 = .ok (.iconst (-1), 1) := by decide +kernel
theorem dX12_countOf_53 : decode cX12_countOf 53 = .ok (.if_icmp .eq 7, 3) := by decide +kernel
theorem dX12_countOf_56 : decode cX12_countOf 56 = .ok (.iconst 1, 1) := by decide +kernel
theorem dX12_countOf_57 : decode cX12_countOf 57 = .ok (.goto 4, 3) := by decide +kernel
theorem dX12_countOf_60 : decode cX12_countOf 60 = .ok (.iconst 0, 1) := by decide +kernel
theorem dX12_countOf_61 : decode cX12_countOf 61 = .ok (.iadd, 1) := by decide +kernel
theorem dX12_countOf_62 : decode cX12_countOf 62 = .ok (.istore_n 2, 1) := by decide +kernel
theorem dX12_countOf_63 : decode cX12_countOf 63 = .ok (.iinc 3 1, 3) := by decide +kernel
theorem dX12_countOf_66 : decode cX12_countOf 66 = .ok (.goto (-62), 3) := by decide +kernel
theorem dX12_countOf_69 : decode cX12_countOf 69 = .ok (.iload_n 1, 1) := by decide +kernel
theorem dX12_countOf_70 : decode cX12_countOf 70 = .ok (.ifCond .ne 10, 3) := by decide +kernel
theorem dX12_countOf_73 : decode cX12_countOf 73 = .ok (.aload_n 0, 1) := by decide +kernel
theorem dX12_countOf_74 : decode cX12_countOf 74 = .ok (.getfield 116, 3) := by decide +kernel
theorem dX12_countOf_77 : decode cX12_countOf 77 = .ok (.goto 28, 3) := by decide +kernel
theorem dX12_countOf_80 : decode cX12_countOf 80 = .ok (.iload_n 1, 1) := by decide +kernel
theorem dX12_countOf_81 : decode cX12_countOf 81 = .ok (.iconst 2, 1) := by decide +kernel
theorem dX12_countOf_82 : decode cX12_countOf 82 = .ok (.if_icmp .ne 10, 3) := by decide +kernel
theorem dX12_countOf_85 : decode cX12_countOf 85 = .ok (.aload_n 0, 1) := by decide +kernel
theorem dX12_countOf_86 : decode cX12_countOf 86 = .ok (.getfield 223, 3) := by decide +kernel
theorem dX12_countOf_89 : decode cX12_countOf 89 = .ok (.goto 16, 3) := by decide +kernel
theorem dX12_countOf_92 : decode cX12_countOf 92 = .ok (.iload_n 1, 1) := by decide +kernel
theorem dX12_countOf_93 : decode cX12_countOf 93 = .ok (.iconst 3, 1) := by decide +kernel
theorem dX12_countOf_94 : decode cX12_countOf 94 = .ok (.if_icmp .ne 10, 3) := by decide +kernel
theorem dX12_countOf_97 : decode cX12_countOf 97 = .ok (.aload_n 0, 1) := by decide +kernel
theorem dX12_countOf_98 : decode cX12_countOf 98 = .ok (.getfield 285, 3) := by decide +kernel
theorem dX12_countOf_101 : decode cX12_countOf 101 = .ok (.goto 4, 3) := by decide +kernel
theorem dX12_countOf_104 : decode cX12_countOf 104 = .ok (.iload_n 2, 1) := by decide +kernel
theorem dX12_countOf_105 : decode cX12_countOf 105 = .ok (.ireturn, 1) := by decide +kernel
theorem dX12_count_0 : decode cX12_count 0 = .ok (.iload_n 1, 1) := by decide +kernel
theorem dX12_count_1 : decode cX12_count 1 = .ok (.i2l, 1) := by decide +kernel
theorem dX12_count_2 : decode cX12_count 2 = .ok (.lconst 0, 1) := by decide +kernel
theorem dX12_count_3 : decode cX12_count 3 = .ok (.ldc2_w 218, 3) := by decide +kernel
theorem dX12_count_6 : decode cX12_count 6 = .ok (.invokestatic 97, 3) := by decide +kernel
theorem dX12_count_9 : decode cX12_count 9 = .ok (.ifCond .eq 11, 3) := by decide +kernel
theorem dX12_count_12 : decode cX12_count 12 = .ok (.aload_n 0, 1) := by decide +kernel
theorem dX12_count_13 : decode cX12_count 13 = .ok (.iload_n 1, 1) := by decide +kernel
theorem dX12_count_14 : decode cX12_count 14 = .ok (.invokevirtual 304, 3) := by decide +kernel
theorem dX12_count_17 : decode cX12_count 17 = .ok (.goto 5, 3) := by decide +kernel
theorem dX12_count_20 : decode cX12_count 20 = .ok (.bipush (-2), 2) := by decide +kernel
theorem dX12_count_22 : decode cX12_count 22 = .ok (.ireturn, 1) := by decide +kernel
theorem dX12_mixed_0 : decode cX12_mixed 0 = .ok (.lload_n 0, 1) := by decide +kernel
theorem dX12_mixed_1 : decode cX12_mixed 1 = .ok (.lstore 4, 2) := by decide +kernel
theorem dX12_mixed_3 : decode cX12_mixed 3 = .ok (.iconst 0, 1) := by decide +kernel
theorem dX12_mixed_4 : decode cX12_mixed 4 = .ok (.istore 6, 2) := by decide +kernel
theorem dX12_mixed_6 : decode cX12_mixed 6 = .ok (.iload 6, 2) := by decide +kernel
theorem dX12_mixed_8 : decode cX12_mixed 8 = .ok (.iload_n 3, 1) := by decide +kernel
theorem dX12_mixed_9 : decode cX12_mixed 9 = .ok (.if_icmp .ge 23, 3) := by decide +kernel
theorem dX12_mixed_12 : decode cX12_mixed 12 = .ok (.ldc2_w 308, 3) := by decide +kernel
theorem dX12_mixed_15 : decode cX12_mixed 15 = .ok (.lload 4, 2) := by decide +kernel
theorem dX12_mixed_17 : decode cX12_mixed 17 = .ok (.lmul, 1) := by decide +kernel
theorem dX12_mixed_18 : decode cX12_mixed 18 = .ok (.aload_n 2, 1) := by decide +kernel
theorem dX12_mixed_19 : decode cX12_mixed 19 = .ok (.iload 6, 2) := by decide +kernel
theorem dX12_mixed_21 : decode cX12_mixed 21 = .ok (.iaload, 1) := by decide +kernel
theorem dX12_mixed_22 : decode cX12_mixed 22 = .ok (.i2l, 1) := by decide +kernel
theorem dX12_mixed_23 : decode cX12_mixed 23 = .ok (.ladd, 1) := by decide +kernel
theorem dX12_mixed_24 : decode cX12_mixed 24 = .ok (.lstore 4, 2) := by decide +kernel
theorem dX12_mixed_26 : decode cX12_mixed 26 = .ok (.iinc 6 1, 3) := by decide +kernel
theorem dX12_mixed_29 : decode cX12_mixed 29 = .ok (.goto (-23), 3) := by decide +kernel
theorem dX12_mixed_32 : decode cX12_mixed 32 = .ok (.lload 4, 2) := by decide +kernel
theorem dX12_mixed_34 : decode cX12_mixed 34 = .ok (.lreturn, 1) := by decide +kernel
theorem dX12_digest_0 : decode cX12_digest 0 = .ok (.ldc2_w 310, 3) := by decide +kernel
theorem dX12_digest_3 : decode cX12_digest 3 = .ok (.lstore_n 1, 1) := by decide +kernel
theorem dX12_digest_4 : decode cX12_digest 4 = .ok (.iconst 0, 1) := by decide +kernel
theorem dX12_digest_5 : decode cX12_digest 5 = .ok (.istore_n 3, 1) := by decide +kernel
theorem dX12_digest_6 : decode cX12_digest 6 = .ok (.iload_n 3, 1) := by decide +kernel
theorem dX12_digest_7 : decode cX12_digest 7 = .ok (.iconst 5, 1) := by decide +kernel
theorem dX12_digest_8 : decode cX12_digest 8 = .ok (.if_icmp .ge 22, 3) := by decide +kernel
theorem dX12_digest_11 : decode cX12_digest 11 = .ok (.ldc2_w 308, 3) := by decide +kernel
theorem dX12_digest_14 : decode cX12_digest 14 = .ok (.lload_n 1, 1) := by decide +kernel
theorem dX12_digest_15 : decode cX12_digest 15 = .ok (.lmul, 1) := by decide +kernel
theorem dX12_digest_16 : decode cX12_digest 16 = .ok (.aload_n 0, 1) := by decide +kernel
theorem dX12_digest_17 : decode cX12_digest 17 = .ok (.iload_n 3, 1) := by decide +kernel
theorem dX12_digest_18 : decode cX12_digest 18 = .ok (.invokevirtual 304, 3) := by decide +kernel
theorem dX12_digest_21 : decode cX12_digest 21 = .ok (.i2l, 1) := by decide +kernel
theorem dX12_digest_22 : decode cX12_digest 22 = .ok (.ladd, 1) := by decide +kernel
theorem dX12_digest_23 : decode cX12_digest 23 = .ok (.lstore_n 1, 1) := by decide +kernel
theorem dX12_digest_24 : decode cX12_digest 24 = .ok (.iinc 3 1, 3) := by decide +kernel
theorem dX12_digest_27 : decode cX12_digest 27 = .ok (.goto (-21), 3) := by decide +kernel
theorem dX12_digest_30 : decode cX12_digest 30 = .ok (.lload_n 1, 1) := by decide +kernel
theorem dX12_digest_31 : decode cX12_digest 31 = .ok (.aload_n 0, 1) := by decide +kernel
theorem dX12_digest_32 : decode cX12_digest 32 = .ok (.getfield 16, 3) := by decide +kernel
theorem dX12_digest_35 : decode cX12_digest 35 = .ok (.bipush 6, 2) := by decide +kernel
theorem dX12_digest_37 : decode cX12_digest 37 = .ok (.aload_n 0, 1) := by decide +kernel
theorem dX12_digest_38 : decode cX12_digest 38 = .ok (.getfield 116, 3) := by decide +kernel
theorem dX12_digest_41 : decode cX12_digest 41 = .ok (.imul, 1) := by decide +kernel
theorem dX12_digest_42 : decode cX12_digest 42 = .ok (.invokestatic 312, 3) := by decide +kernel
theorem dX12_digest_45 : decode cX12_digest 45 = .ok (.lstore_n 1, 1) := by decide +kernel
theorem dX12_digest_46 : decode cX12_digest 46 = .ok (.iconst 0, 1) := by decide +kernel
theorem dX12_digest_47 : decode cX12_digest 47 = .ok (.istore_n 3, 1) := by decide +kernel
theorem dX12_digest_48 : decode cX12_digest 48 = .ok (.iload_n 3, 1) := by decide +kernel
theorem dX12_digest_49 : decode cX12_digest 49 = .ok (.bipush 6, 2) := by decide +kernel
theorem dX12_digest_51 : decode cX12_digest 51 = .ok (.if_icmp .ge 53, 3) := by decide +kernel
theorem dX12_digest_54 : decode cX12_digest 54 = .ok (.iconst 0, 1) := by decide +kernel
theorem dX12_digest_55 : decode cX12_digest 55 = .ok (.istore 4, 2) := by decide +kernel
theorem dX12_digest_57 : decode cX12_digest 57 = .ok (.iload 4, 2) := by decide +kernel
theorem dX12_digest_59 : decode cX12_digest 59 = .ok (.iconst 3, 1) := by decide +kernel
theorem dX12_digest_60 : decode cX12_digest 60 = .ok (.if_icmp .ge 24, 3) := by decide +kernel
theorem dX12_digest_63 : decode cX12_digest 63 = .ok (.ldc2_w 308, 3) := by decide +kernel
theorem dX12_digest_66 : decode cX12_digest 66 = .ok (.lload_n 1, 1) := by decide +kernel
theorem dX12_digest_67 : decode cX12_digest 67 = .ok (.lmul, 1) := by decide +kernel
theorem dX12_digest_68 : decode cX12_digest 68 = .ok (.aload_n 0, 1) := by decide +kernel
theorem dX12_digest_69 : decode cX12_digest 69 = .ok (.iload_n 3, 1) := by decide +kernel
theorem dX12_digest_70 : decode cX12_digest 70 = .ok (.iload 4, 2) := by decide +kernel
theorem dX12_digest_72 : decode cX12_digest 72 = .ok (.invokevirtual 140, 3) := by decide +kernel
theorem dX12_digest_75 : decode cX12_digest 75 = .ok (.i2l, 1) := by decide +kernel
theorem dX12_digest_76 : decode cX12_digest 76 = .ok (.ladd, 1) := by decide +kernel
theorem dX12_digest_77 : decode cX12_digest 77 = .ok (.lstore_n 1, 1) := by decide +kernel
theorem dX12_digest_78 : decode cX12_digest 78 = .ok (.iinc 4 1, 3) := by decide +kernel
theorem dX12_digest_81 : decode cX12_digest 81 = .ok (.goto (-24), 3) := by decide +kernel
theorem dX12_digest_84 : decode cX12_digest 84 = .ok (.ldc2_w 308, 3) := by decide +kernel
theorem dX12_digest_87 : decode cX12_digest 87 = .ok (.lload_n 1, 1) := by decide +kernel
theorem dX12_digest_88 : decode cX12_digest 88 = .ok (.lmul, 1) := by decide +kernel
theorem dX12_digest_89 : decode cX12_digest 89 = .ok (.aload_n 0, 1) := by decide +kernel
theorem dX12_digest_90 : decode cX12_digest 90 = .ok (.iload_n 3, 1) := by decide +kernel
theorem dX12_digest_91 : decode cX12_digest 91 = .ok (.iconst 0, 1) := by decide +kernel
theorem dX12_digest_92 : decode cX12_digest 92 = .ok (.invokevirtual 260, 3) := by decide +kernel
theorem dX12_digest_95 : decode cX12_digest 95 = .ok (.i2l, 1) := by decide +kernel
theorem dX12_digest_96 : decode cX12_digest 96 = .ok (.ladd, 1) := by decide +kernel
theorem dX12_digest_97 : decode cX12_digest 97 = .ok (.lstore_n 1, 1) := by decide +kernel
theorem dX12_digest_98 : decode cX12_digest 98 = .ok (.iinc 3 1, 3) := by decide +kernel
theorem dX12_digest_101 : decode cX12_digest 101 = .ok (.goto (-53), 3) := by decide +kernel
theorem dX12_digest_104 : decode cX12_digest 104 = .ok (.ldc2_w 308, 3) := by decide +kernel
theorem dX12_digest_107 : decode cX12_digest 107 = .ok (.lload_n 1, 1) := by decide +kernel
theorem dX12_digest_108 : decode cX12_digest 108 = .ok (.lmul, 1) := by decide +kernel
theorem dX12_digest_109 : decode cX12_digest 109 = .ok (.aload_n 0, 1) := by decide +kernel
theorem dX12_digest_110 : decode cX12_digest 110 = .ok (.getfield 59, 3) := by decide +kernel
theorem dX12_digest_113 : decode cX12_digest 113 = .ok (.i2l, 1) := by decide +kernel
theorem dX12_digest_114 : decode cX12_digest 114 = .ok (.ladd, 1) := by decide +kernel
theorem dX12_digest_115 : decode cX12_digest 115 = .ok (.aload_n 0, 1) := by decide +kernel
theorem dX12_digest_116 : decode cX12_digest 116 = .ok (.getfield 28, 3) := by decide +kernel
theorem dX12_digest_119 : decode cX12_digest 119 = .ok (.iconst 4, 1) := by decide +kernel
theorem dX12_digest_120 : decode cX12_digest 120 = .ok (.aload_n 0, 1) := by decide +kernel
theorem dX12_digest_121 : decode cX12_digest 121 = .ok (.getfield 223, 3) := by decide +kernel
theorem dX12_digest_124 : decode cX12_digest 124 = .ok (.imul, 1) := by decide +kernel
theorem dX12_digest_125 : decode cX12_digest 125 = .ok (.invokestatic 312, 3) := by decide +kernel
theorem dX12_digest_128 : decode cX12_digest 128 = .ok (.aload_n 0, 1) := by decide +kernel
theorem dX12_digest_129 : decode cX12_digest 129 = .ok (.getfield 50, 3) := by decide +kernel
theorem dX12_digest_132 : decode cX12_digest 132 = .ok (.iconst 3, 1) := by decide +kernel
theorem dX12_digest_133 : decode cX12_digest 133 = .ok (.aload_n 0, 1) := by decide +kernel
theorem dX12_digest_134 : decode cX12_digest 134 = .ok (.getfield 285, 3) := by decide +kernel
theorem dX12_digest_137 : decode cX12_digest 137 = .ok (.imul, 1) := by decide +kernel
theorem dX12_digest_138 : decode cX12_digest 138 = .ok (.invokestatic 312, 3) := by decide +kernel
theorem dX12_digest_141 : decode cX12_digest 141 = .ok (.lstore_n 1, 1) := by decide +kernel
theorem dX12_digest_142 : decode cX12_digest 142 = .ok (.lload_n 1, 1) := by decide +kernel
theorem dX12_digest_143 : decode cX12_digest 143 = .ok (.aload_n 0, 1) := by decide +kernel
theorem dX12_digest_144 : decode cX12_digest 144 = .ok (.getfield 53, 3) := by decide +kernel
theorem dX12_digest_147 : decode cX12_digest 147 = .ok (.bipush 8, 2) := by decide +kernel
theorem dX12_digest_149 : decode cX12_digest 149 = .ok (.invokestatic 312, 3) := by decide +kernel
theorem dX12_digest_152 : decode cX12_digest 152 = .ok (.aload_n 0, 1) := by decide +kernel
theorem dX12_digest_153 : decode cX12_digest 153 = .ok (.getfield 56, 3) := by decide +kernel
theorem dX12_digest_156 : decode cX12_digest 156 = .ok (.bipush 18, 2) := by decide +kernel
theorem dX12_digest_158 : decode cX12_digest 158 = .ok (.invokestatic 312, 3) := by decide +kernel
theorem dX12_digest_161 : decode cX12_digest 161 = .ok (.lstore_n 1, 1) := by decide +kernel
theorem dX12_digest_162 : decode cX12_digest 162 = .ok (.iconst 0, 1) := by decide +kernel
theorem dX12_digest_163 : decode cX12_digest 163 = .ok (.istore_n 3, 1) := by decide +kernel
theorem dX12_digest_164 : decode cX12_digest 164 = .ok (.iload_n 3, 1) := by decide +kernel
theorem dX12_digest_165 : decode cX12_digest 165 = .ok (.iconst 3, 1) := by decide +kernel
theorem dX12_digest_166 : decode cX12_digest 166 = .ok (.if_icmp .ge 22, 3) := by decide +kernel
theorem dX12_digest_169 : decode cX12_digest 169 = .ok (.ldc2_w 308, 3) := by decide +kernel
theorem dX12_digest_172 : decode cX12_digest 172 = .ok (.lload_n 1, 1) := by decide +kernel
theorem dX12_digest_173 : decode cX12_digest 173 = .ok (.lmul, 1) := by decide +kernel
theorem dX12_digest_174 : decode cX12_digest 174 = .ok (.aload_n 0, 1) := by decide +kernel
theorem dX12_digest_175 : decode cX12_digest 175 = .ok (.iload_n 3, 1) := by decide +kernel
theorem dX12_digest_176 : decode cX12_digest 176 = .ok (.invokevirtual 316, 3) := by decide +kernel
theorem dX12_digest_179 : decode cX12_digest 179 = .ok (.i2l, 1) := by decide +kernel
theorem dX12_digest_180 : decode cX12_digest 180 = .ok (.ladd, 1) := by decide +kernel
theorem dX12_digest_181 : decode cX12_digest 181 = .ok (.lstore_n 1, 1) := by decide +kernel
theorem dX12_digest_182 : decode cX12_digest 182 = .ok (.iinc 3 1, 3) := by decide +kernel
theorem dX12_digest_185 : decode cX12_digest 185 = .ok (.goto (-21), 3) := by decide +kernel
theorem dX12_digest_188 : decode cX12_digest 188 = .ok (.iconst 0, 1) := by decide +kernel
theorem dX12_digest_189 : decode cX12_digest 189 = .ok (.istore_n 3, 1) := by decide +kernel
theorem dX12_digest_190 : decode cX12_digest 190 = .ok (.iload_n 3, 1) := by decide +kernel
theorem dX12_digest_191 : decode cX12_digest 191 = .ok (.iconst 2, 1) := by decide +kernel
theorem dX12_digest_192 : decode cX12_digest 192 = .ok (.if_icmp .ge 49, 3) := by decide +kernel
theorem dX12_digest_195 : decode cX12_digest 195 = .ok (.iconst 0, 1) := by decide +kernel
theorem dX12_digest_196 : decode cX12_digest 196 = .ok (.istore 4, 2) := by decide +kernel
theorem dX12_digest_198 : decode cX12_digest 198 = .ok (.iload 4, 2) := by decide +kernel
theorem dX12_digest_200 : decode cX12_digest 200 = .ok (.aload_n 0, 1) := by decide +kernel
theorem dX12_digest_201 : decode cX12_digest 201 = .ok (.getfield 13, 3) := by decide +kernel
theorem dX12_digest_204 : decode cX12_digest 204 = .ok (.iload_n 3, 1) := by decide +kernel
theorem dX12_digest_205 : decode cX12_digest 205 = .ok (.iaload, 1) := by decide +kernel
theorem dX12_digest_206 : decode cX12_digest 206 = .ok (.if_icmp .ge 29, 3) := by decide +kernel
theorem dX12_digest_209 : decode cX12_digest 209 = .ok (.ldc2_w 308, 3) := by decide +kernel
theorem dX12_digest_212 : decode cX12_digest 212 = .ok (.lload_n 1, 1) := by decide +kernel
theorem dX12_digest_213 : decode cX12_digest 213 = .ok (.lmul, 1) := by decide +kernel
theorem dX12_digest_214 : decode cX12_digest 214 = .ok (.aload_n 0, 1) := by decide +kernel
theorem dX12_digest_215 : decode cX12_digest 215 = .ok (.getfield 7, 3) := by decide +kernel
theorem dX12_digest_218 : decode cX12_digest 218 = .ok (.bipush 66, 2) := by decide +kernel
theorem dX12_digest_220 : decode cX12_digest 220 = .ok (.iload_n 3, 1) := by decide +kernel
theorem dX12_digest_221 : decode cX12_digest 221 = .ok (.imul, 1) := by decide +kernel
theorem dX12_digest_222 : decode cX12_digest 222 = .ok (.iload 4, 2) := by decide +kernel
theorem dX12_digest_224 : decode cX12_digest 224 = .ok (.iadd, 1) := by decide +kernel
theorem dX12_digest_225 : decode cX12_digest 225 = .ok (.iaload, 1) := by decide +kernel
theorem dX12_digest_226 : decode cX12_digest 226 = .ok (.i2l, 1) := by decide +kernel
theorem dX12_digest_227 : decode cX12_digest 227 = .ok (.ladd, 1) := by decide +kernel
theorem dX12_digest_228 : decode cX12_digest 228 = .ok (.lstore_n 1, 1) := by decide +kernel
theorem dX12_digest_229 : decode cX12_digest 229 = .ok (.iinc 4 1, 3) := by decide +kernel
theorem dX12_digest_232 : decode cX12_digest 232 = .ok (.goto (-34), 3) := by decide +kernel
theorem dX12_digest_235 : decode cX12_digest 235 = .ok (.iinc 3 1, 3) := by decide +kernel
theorem dX12_digest_238 : decode cX12_digest 238 = .ok (.goto (-48), 3) := by decide +kernel
theorem dX12_digest_241 : decode cX12_digest 241 = .ok (.lload_n 1, 1) := by decide +kernel
theorem dX12_digest_242 : decode cX12_digest 242 = .ok (.lreturn, 1) := by decide +kernel
theorem dJ6_compare_7cf53_0 : decode cJ6_compare_7cf53 0 = .ok (.iload_n 0, 1) := by decide +kernel
theorem dJ6_compare_7cf53_1 : decode cJ6_compare_7cf53 1 = .ok (.iload_n 1, 1) := by decide +kernel
theorem dJ6_compare_7cf53_2 : decode cJ6_compare_7cf53 2 = .ok (.if_icmp .ge 7, 3) := by decide +kernel
theorem dJ6_compare_7cf53_5 : decode cJ6_compare_7cf53 5 = .ok (.iconst (-1), 1) := by decide +kernel
theorem dJ6_compare_7cf53_6 : decode cJ6_compare_7cf53 6 = .ok (.goto 13, 3) := by decide +kernel
theorem dJ6_compare_7cf53_9 : decode cJ6_compare_7cf53 9 = .ok (.iload_n 0, 1) := by decide +kernel
theorem dJ6_compare_7cf53_10 : decode cJ6_compare_7cf53 10 = .ok (.iload_n 1, 1) := by decide +kernel
theorem dJ6_compare_7cf53_11 : decode cJ6_compare_7cf53 11 = .ok (.if_icmp .ne 7, 3) := by decide +kernel
theorem dJ6_compare_7cf53_14 : decode cJ6_compare_7cf53 14 = .ok (.iconst 0, 1) := by decide +kernel
theorem dJ6_compare_7cf53_15 : decode cJ6_compare_7cf53 15 = .ok (.goto 4, 3) := by decide +kernel
theorem dJ6_compare_7cf53_18 : decode cJ6_compare_7cf53 18 = .ok (.iconst 1, 1) := by decide +kernel
theorem dJ6_compare_7cf53_19 : decode cJ6_compare_7cf53 19 = .ok (.ireturn, 1) := by decide +kernel
theorem dJ6_bitCount_0f7a4_0 : decode cJ6_bitCount_0f7a4 0 = .ok (.iload_n 0, 1) := by decide +kernel
theorem dJ6_bitCount_0f7a4_1 : decode cJ6_bitCount_0f7a4 1 = .ok (.iload_n 0, 1) := by decide +kernel
theorem dJ6_bitCount_0f7a4_2 : decode cJ6_bitCount_0f7a4 2 = .ok (.iconst 1, 1) := by decide +kernel
theorem dJ6_bitCount_0f7a4_3 : decode cJ6_bitCount_0f7a4 3 = .ok (.iushr, 1) := by decide +kernel
theorem dJ6_bitCount_0f7a4_4 : decode cJ6_bitCount_0f7a4 4 = .ok (.ldc_w 265, 3) := by decide +kernel
theorem dJ6_bitCount_0f7a4_7 : decode cJ6_bitCount_0f7a4 7 = .ok (.iand, 1) := by decide +kernel
theorem dJ6_bitCount_0f7a4_8 : decode cJ6_bitCount_0f7a4 8 = .ok (.isub, 1) := by decide +kernel
theorem dJ6_bitCount_0f7a4_9 : decode cJ6_bitCount_0f7a4 9 = .ok (.istore_n 0, 1) := by decide +kernel
theorem dJ6_bitCount_0f7a4_10 : decode cJ6_bitCount_0f7a4 10 = .ok (.iload_n 0, 1) := by decide +kernel
theorem dJ6_bitCount_0f7a4_11 : decode cJ6_bitCount_0f7a4 11 = .ok (.ldc_w 266, 3) := by decide +kernel
theorem dJ6_bitCount_0f7a4_14 : decode cJ6_bitCount_0f7a4 14 = .ok (.iand, 1) := by decide +kernel
theorem dJ6_bitCount_0f7a4_15 : decode cJ6_bitCount_0f7a4 15 = .ok (.iload_n 0, 1) := by decide +kernel
theorem dJ6_bitCount_0f7a4_16 : decode cJ6_bitCount_0f7a4 16 = .ok (.iconst 2, 1) := by decide +kernel
theorem dJ6_bitCount_0f7a4_17 : decode cJ6_bitCount_0f7a4 17 = .ok (.iushr, 1) := by decide +kernel
theorem dJ6_bitCount_0f7a4_18 : decode cJ6_bitCount_0f7a4 18 = .ok (.ldc_w 266, 3) := by decide +kernel
theorem dJ6_bitCount_0f7a4_21 : decode cJ6_bitCount_0f7a4 21 = .ok (.iand, 1) := by decide +kernel
theorem dJ6_bitCount_0f7a4_22 : decode cJ6_bitCount_0f7a4 22 = .ok (.iadd, 1) := by decide +kernel
theorem dJ6_bitCount_0f7a4_23 : decode cJ6_bitCount_0f7a4 23 = .ok (.istore_n 0, 1) := by decide +kernel
theorem dJ6_bitCount_0f7a4_24 : decode cJ6_bitCount_0f7a4 24 = .ok (.iload_n 0, 1) := by decide +kernel
theorem dJ6_bitCount_0f7a4_25 : decode cJ6_bitCount_0f7a4 25 = .ok (.iload_n 0, 1) := by decide +kernel
theorem dJ6_bitCount_0f7a4_26 : decode cJ6_bitCount_0f7a4 26 = .ok (.iconst 4, 1) := by decide +kernel
theorem dJ6_bitCount_0f7a4_27 : decode cJ6_bitCount_0f7a4 27 = .ok (.iushr, 1) := by decide +kernel
theorem dJ6_bitCount_0f7a4_28 : decode cJ6_bitCount_0f7a4 28 = .ok (.iadd, 1) := by decide +kernel
theorem dJ6_bitCount_0f7a4_29 : decode cJ6_bitCount_0f7a4 29 = .ok (.ldc_w 267, 3) := by decide +kernel
theorem dJ6_bitCount_0f7a4_32 : decode cJ6_bitCount_0f7a4 32 = .ok (.iand, 1) := by decide +kernel
theorem dJ6_bitCount_0f7a4_33 : decode cJ6_bitCount_0f7a4 33 = .ok (.istore_n 0, 1) := by decide +kernel
theorem dJ6_bitCount_0f7a4_34 : decode cJ6_bitCount_0f7a4 34 = .ok (.iload_n 0, 1) := by decide +kernel
theorem dJ6_bitCount_0f7a4_35 : decode cJ6_bitCount_0f7a4 35 = .ok (.iload_n 0, 1) := by decide +kernel
theorem dJ6_bitCount_0f7a4_36 : decode cJ6_bitCount_0f7a4 36 = .ok (.bipush 8, 2) := by decide +kernel
theorem dJ6_bitCount_0f7a4_38 : decode cJ6_bitCount_0f7a4 38 = .ok (.iushr, 1) := by decide +kernel
theorem dJ6_bitCount_0f7a4_39 : decode cJ6_bitCount_0f7a4 39 = .ok (.iadd, 1) := by decide +kernel
theorem dJ6_bitCount_0f7a4_40 : decode cJ6_bitCount_0f7a4 40 = .ok (.istore_n 0, 1) := by decide +kernel
theorem dJ6_bitCount_0f7a4_41 : decode cJ6_bitCount_0f7a4 41 = .ok (.iload_n 0, 1) := by decide +kernel
theorem dJ6_bitCount_0f7a4_42 : decode cJ6_bitCount_0f7a4 42 = .ok (.iload_n 0, 1) := by decide +kernel
theorem dJ6_bitCount_0f7a4_43 : decode cJ6_bitCount_0f7a4 43 = .ok (.bipush 16, 2) := by decide +kernel
theorem dJ6_bitCount_0f7a4_45 : decode cJ6_bitCount_0f7a4 45 = .ok (.iushr, 1) := by decide +kernel
theorem dJ6_bitCount_0f7a4_46 : decode cJ6_bitCount_0f7a4 46 = .ok (.iadd, 1) := by decide +kernel
theorem dJ6_bitCount_0f7a4_47 : decode cJ6_bitCount_0f7a4 47 = .ok (.istore_n 0, 1) := by decide +kernel
theorem dJ6_bitCount_0f7a4_48 : decode cJ6_bitCount_0f7a4 48 = .ok (.iload_n 0, 1) := by decide +kernel
theorem dJ6_bitCount_0f7a4_49 : decode cJ6_bitCount_0f7a4 49 = .ok (.bipush 63, 2) := by decide +kernel
theorem dJ6_bitCount_0f7a4_51 : decode cJ6_bitCount_0f7a4 51 = .ok (.iand, 1) := by decide +kernel
theorem dJ6_bitCount_0f7a4_52 : decode cJ6_bitCount_0f7a4 52 = .ok (.ireturn, 1) := by decide +kernel
theorem dJ9_abs_0f7a4_0 : decode cJ9_abs_0f7a4 0 = .ok (.iload_n 0, 1) := by decide +kernel
theorem dJ9_abs_0f7a4_1 : decode cJ9_abs_0f7a4 1 = .ok (.ifCond .ge 8, 3) := by decide +kernel
theorem dJ9_abs_0f7a4_4 : decode cJ9_abs_0f7a4 4 = .ok (.iload_n 0, 1) := by decide +kernel
theorem dJ9_abs_0f7a4_5 : decode cJ9_abs_0f7a4 5 = .ok (.ineg, 1) := by decide +kernel
theorem dJ9_abs_0f7a4_6 : decode cJ9_abs_0f7a4 6 = .ok (.goto 4, 3) := by decide +kernel
theorem dJ9_abs_0f7a4_9 : decode cJ9_abs_0f7a4 9 = .ok (.iload_n 0, 1) := by decide +kernel
theorem dJ9_abs_0f7a4_10 : decode cJ9_abs_0f7a4 10 = .ok (.ireturn, 1) := by decide +kernel
theorem dJ9_max_7cf53_0 : decode cJ9_max_7cf53 0 = .ok (.iload_n 0, 1) := by decide +kernel
theorem dJ9_max_7cf53_1 : decode cJ9_max_7cf53 1 = .ok (.iload_n 1, 1) := by decide +kernel
theorem dJ9_max_7cf53_2 : decode cJ9_max_7cf53 2 = .ok (.if_icmp .lt 7, 3) := by decide +kernel
theorem dJ9_max_7cf53_5 : decode cJ9_max_7cf53 5 = .ok (.iload_n 0, 1) := by decide +kernel
theorem dJ9_max_7cf53_6 : decode cJ9_max_7cf53 6 = .ok (.goto 4, 3) := by decide +kernel
theorem dJ9_max_7cf53_9 : decode cJ9_max_7cf53 9 = .ok (.iload_n 1, 1) := by decide +kernel
theorem dJ9_max_7cf53_10 : decode cJ9_max_7cf53 10 = .ok (.ireturn, 1) := by decide +kernel
theorem dJ9_min_7cf53_0 : decode cJ9_min_7cf53 0 = .ok (.iload_n 0, 1) := by decide +kernel
theorem dJ9_min_7cf53_1 : decode cJ9_min_7cf53 1 = .ok (.iload_n 1, 1) := by decide +kernel
theorem dJ9_min_7cf53_2 : decode cJ9_min_7cf53 2 = .ok (.if_icmp .gt 7, 3) := by decide +kernel
theorem dJ9_min_7cf53_5 : decode cJ9_min_7cf53 5 = .ok (.iload_n 0, 1) := by decide +kernel
theorem dJ9_min_7cf53_6 : decode cJ9_min_7cf53 6 = .ok (.goto 4, 3) := by decide +kernel
theorem dJ9_min_7cf53_9 : decode cJ9_min_7cf53 9 = .ok (.iload_n 1, 1) := by decide +kernel
theorem dJ9_min_7cf53_10 : decode cJ9_min_7cf53 10 = .ok (.ireturn, 1) := by decide +kernel
theorem dJ7_fill_d0a16_0 : decode cJ7_fill_d0a16 0 = .ok (.iconst 0, 1) := by decide +kernel
theorem dJ7_fill_d0a16_1 : decode cJ7_fill_d0a16 1 = .ok (.istore_n 3, 1) := by decide +kernel
theorem dJ7_fill_d0a16_2 : decode cJ7_fill_d0a16 2 = .ok (.aload_n 0, 1) := by decide +kernel
theorem dJ7_fill_d0a16_3 : decode cJ7_fill_d0a16 3 = .ok (.arraylength, 1) := by decide +kernel
theorem dJ7_fill_d0a16_4 : decode cJ7_fill_d0a16 4 = .ok (.istore 4, 2) := by decide +kernel
theorem dJ7_fill_d0a16_6 : decode cJ7_fill_d0a16 6 = .ok (.iload_n 3, 1) := by decide +kernel
theorem dJ7_fill_d0a16_7 : decode cJ7_fill_d0a16 7 = .ok (.iload 4, 2) := by decide +kernel
theorem dJ7_fill_d0a16_9 : decode cJ7_fill_d0a16 9 = .ok (.if_icmp .ge 13, 3) := by decide +kernel
theorem dJ7_fill_d0a16_12 : decode cJ7_fill_d0a16 12 = .ok (.aload_n 0, 1) := by decide +kernel
theorem dJ7_fill_d0a16_13 : decode cJ7_fill_d0a16 13 = .ok (.iload_n 3, 1) := by decide +kernel
theorem dJ7_fill_d0a16_14 : decode cJ7_fill_d0a16 14 = .ok (.lload_n 1, 1) := by decide +kernel
theorem dJ7_fill_d0a16_15 : decode cJ7_fill_d0a16 15 = .ok (.lastore, 1) := by decide +kernel
theorem dJ7_fill_d0a16_16 : decode cJ7_fill_d0a16 16 = .ok (.iinc 3 1, 3) := by decide +kernel
theorem dJ7_fill_d0a16_19 : decode cJ7_fill_d0a16 19 = .ok (.goto (-13), 3) := by decide +kernel
theorem dJ7_fill_d0a16_22 : decode cJ7_fill_d0a16 22 = .ok (.return_, 1) := by decide +kernel
theorem dJ7_fill_53178_0 : decode cJ7_fill_53178 0 = .ok (.iconst 0, 1) := by decide +kernel
theorem dJ7_fill_53178_1 : decode cJ7_fill_53178 1 = .ok (.istore_n 2, 1) := by decide +kernel
theorem dJ7_fill_53178_2 : decode cJ7_fill_53178 2 = .ok (.aload_n 0, 1) := by decide +kernel
theorem dJ7_fill_53178_3 : decode cJ7_fill_53178 3 = .ok (.arraylength, 1) := by decide +kernel
theorem dJ7_fill_53178_4 : decode cJ7_fill_53178 4 = .ok (.istore_n 3, 1) := by decide +kernel
theorem dJ7_fill_53178_5 : decode cJ7_fill_53178 5 = .ok (.iload_n 2, 1) := by decide +kernel
theorem dJ7_fill_53178_6 : decode cJ7_fill_53178 6 = .ok (.iload_n 3, 1) := by decide +kernel
theorem dJ7_fill_53178_7 : decode cJ7_fill_53178 7 = .ok (.if_icmp .ge 13, 3) := by decide +kernel
theorem dJ7_fill_53178_10 : decode cJ7_fill_53178 10 = .ok (.aload_n 0, 1) := by decide +kernel
theorem dJ7_fill_53178_11 : decode cJ7_fill_53178 11 = .ok (.iload_n 2, 1) := by decide +kernel
theorem dJ7_fill_53178_12 : decode cJ7_fill_53178 12 = .ok (.iload_n 1, 1) := by decide +kernel
theorem dJ7_fill_53178_13 : decode cJ7_fill_53178 13 = .ok (.iastore, 1) := by decide +kernel
theorem dJ7_fill_53178_14 : decode cJ7_fill_53178 14 = .ok (.iinc 2 1, 3) := by decide +kernel
theorem dJ7_fill_53178_17 : decode cJ7_fill_53178 17 = .ok (.goto (-12), 3) := by decide +kernel
theorem dJ7_fill_53178_20 : decode cJ7_fill_53178 20 = .ok (.return_, 1) := by decide +kernel
theorem dL_law_0 : decode cL_law 0 = .ok (.new 7, 3) := by decide +kernel
theorem dL_law_3 : decode cL_law 3 = .ok (.dup, 1) := by decide +kernel
theorem dL_law_4 : decode cL_law 4 = .ok (.invokespecial 9, 3) := by decide +kernel
theorem dL_law_7 : decode cL_law 7 = .ok (.astore_n 1, 1) := by decide +kernel
theorem dL_law_8 : decode cL_law 8 = .ok (.new 10, 3) := by decide +kernel
theorem dL_law_11 : decode cL_law 11 = .ok (.dup, 1) := by decide +kernel
theorem dL_law_12 : decode cL_law 12 = .ok (.invokespecial 12, 3) := by decide +kernel
theorem dL_law_15 : decode cL_law 15 = .ok (.astore_n 2, 1) := by decide +kernel
theorem dL_law_16 : decode cL_law 16 = .ok (.iconst 0, 1) := by decide +kernel
theorem dL_law_17 : decode cL_law 17 = .ok (.istore_n 3, 1) := by decide +kernel
theorem dL_law_18 : decode cL_law 18 = .ok (.iload_n 3, 1) := by decide +kernel
theorem dL_law_19 : decode cL_law 19 = .ok (.aload_n 0, 1) := by decide +kernel
theorem dL_law_20 : decode cL_law 20 = .ok (.arraylength, 1) := by decide +kernel
theorem dL_law_21 : decode cL_law 21 = .ok (.bipush 7, 2) := by decide +kernel
theorem dL_law_23 : decode cL_law 23 = .ok (.isub, 1) := by decide +kernel
theorem dL_law_24 : decode cL_law 24 = .ok (.if_icmp .gt 1393, 3) := by decide +kernel
theorem dL_law_27 : decode cL_law 27 = .ok (.aload_n 0, 1) := by decide +kernel
theorem dL_law_28 : decode cL_law 28 = .ok (.iload_n 3, 1) := by decide +kernel
theorem dL_law_29 : decode cL_law 29 = .ok (.iaload, 1) := by decide +kernel
theorem dL_law_30 : decode cL_law 30 = .ok (.bipush 31, 2) := by decide +kernel
theorem dL_law_32 : decode cL_law 32 = .ok (.iand, 1) := by decide +kernel
theorem dL_law_33 : decode cL_law 33 = .ok (.tableswitch 1378 0 31 #[143, 206, 255, 288, 331, 354, 407, 460, 535, 588, 631, 664, 697, 760, 813, 826, 839, 862, 905, 938, 981, 1014, 1057, 1090, 1123, 1166, 1189, 1242, 1285, 1308, 1341, 1364], 143) := by decide +kernel
theorem dL_law_176 : decode cL_law 176 = .ok (.aload_n 1, 1) := by decide +kernel
theorem dL_law_177 : decode cL_law 177 = .ok (.aload_n 0, 1) := by decide +kernel
theorem dL_law_178 : decode cL_law 178 = .ok (.iload_n 3, 1) := by decide +kernel
theorem dL_law_179 : decode cL_law 179 = .ok (.iconst 1, 1) := by decide +kernel
theorem dL_law_180 : decode cL_law 180 = .ok (.iadd, 1) := by decide +kernel
theorem dL_law_181 : decode cL_law 181 = .ok (.iaload, 1) := by decide +kernel
theorem dL_law_182 : decode cL_law 182 = .ok (.aload_n 0, 1) := by decide +kernel
theorem dL_law_183 : decode cL_law 183 = .ok (.iload_n 3, 1) := by decide +kernel
theorem dL_law_184 : decode cL_law 184 = .ok (.iconst 2, 1) := by decide +kernel
theorem dL_law_185 : decode cL_law 185 = .ok (.iadd, 1) := by decide +kernel
theorem dL_law_186 : decode cL_law 186 = .ok (.iaload, 1) := by decide +kernel
theorem dL_law_187 : decode cL_law 187 = .ok (.aload_n 0, 1) := by decide +kernel
theorem dL_law_188 : decode cL_law 188 = .ok (.iload_n 3, 1) := by decide +kernel
theorem dL_law_189 : decode cL_law 189 = .ok (.iconst 3, 1) := by decide +kernel
theorem dL_law_190 : decode cL_law 190 = .ok (.iadd, 1) := by decide +kernel
theorem dL_law_191 : decode cL_law 191 = .ok (.iaload, 1) := by decide +kernel
theorem dL_law_192 : decode cL_law 192 = .ok (.aload_n 0, 1) := by decide +kernel
theorem dL_law_193 : decode cL_law 193 = .ok (.iload_n 3, 1) := by decide +kernel
theorem dL_law_194 : decode cL_law 194 = .ok (.iconst 4, 1) := by decide +kernel
theorem dL_law_195 : decode cL_law 195 = .ok (.iadd, 1) := by decide +kernel
theorem dL_law_196 : decode cL_law 196 = .ok (.iaload, 1) := by decide +kernel
theorem dL_law_197 : decode cL_law 197 = .ok (.aload_n 0, 1) := by decide +kernel
theorem dL_law_198 : decode cL_law 198 = .ok (.iload_n 3, 1) := by decide +kernel
theorem dL_law_199 : decode cL_law 199 = .ok (.iconst 5, 1) := by decide +kernel
theorem dL_law_200 : decode cL_law 200 = .ok (.iadd, 1) := by decide +kernel
theorem dL_law_201 : decode cL_law 201 = .ok (.iaload, 1) := by decide +kernel
theorem dL_law_202 : decode cL_law 202 = .ok (.invokevirtual 13, 3) := by decide +kernel
theorem dL_law_205 : decode cL_law 205 = .ok (.aload_n 2, 1) := by decide +kernel
theorem dL_law_206 : decode cL_law 206 = .ok (.aload_n 0, 1) := by decide +kernel
theorem dL_law_207 : decode cL_law 207 = .ok (.iload_n 3, 1) := by decide +kernel
theorem dL_law_208 : decode cL_law 208 = .ok (.iconst 1, 1) := by decide +kernel
theorem dL_law_209 : decode cL_law 209 = .ok (.iadd, 1) := by decide +kernel
theorem dL_law_210 : decode cL_law 210 = .ok (.iaload, 1) := by decide +kernel
theorem dL_law_211 : decode cL_law 211 = .ok (.aload_n 0, 1) := by decide +kernel
theorem dL_law_212 : decode cL_law 212 = .ok (.iload_n 3, 1) := by decide +kernel
theorem dL_law_213 : decode cL_law 213 = .ok (.iconst 2, 1) := by decide +kernel
theorem dL_law_214 : decode cL_law 214 = .ok (.iadd, 1) := by decide +kernel
theorem dL_law_215 : decode cL_law 215 = .ok (.iaload, 1) := by decide +kernel
theorem dL_law_216 : decode cL_law 216 = .ok (.aload_n 0, 1) := by decide +kernel
theorem dL_law_217 : decode cL_law 217 = .ok (.iload_n 3, 1) := by decide +kernel
theorem dL_law_218 : decode cL_law 218 = .ok (.iconst 3, 1) := by decide +kernel
theorem dL_law_219 : decode cL_law 219 = .ok (.iadd, 1) := by decide +kernel
theorem dL_law_220 : decode cL_law 220 = .ok (.iaload, 1) := by decide +kernel
theorem dL_law_221 : decode cL_law 221 = .ok (.aload_n 0, 1) := by decide +kernel
theorem dL_law_222 : decode cL_law 222 = .ok (.iload_n 3, 1) := by decide +kernel
theorem dL_law_223 : decode cL_law 223 = .ok (.iconst 4, 1) := by decide +kernel
theorem dL_law_224 : decode cL_law 224 = .ok (.iadd, 1) := by decide +kernel
theorem dL_law_225 : decode cL_law 225 = .ok (.iaload, 1) := by decide +kernel
theorem dL_law_226 : decode cL_law 226 = .ok (.aload_n 0, 1) := by decide +kernel
theorem dL_law_227 : decode cL_law 227 = .ok (.iload_n 3, 1) := by decide +kernel
theorem dL_law_228 : decode cL_law 228 = .ok (.iconst 5, 1) := by decide +kernel
theorem dL_law_229 : decode cL_law 229 = .ok (.iadd, 1) := by decide +kernel
theorem dL_law_230 : decode cL_law 230 = .ok (.iaload, 1) := by decide +kernel
theorem dL_law_231 : decode cL_law 231 = .ok (.invokevirtual 17, 3) := by decide +kernel
theorem dL_law_234 : decode cL_law 234 = .ok (.if_icmp .eq 1177, 3) := by decide +kernel
theorem dL_law_237 : decode cL_law 237 = .ok (.iconst 0, 1) := by decide +kernel
theorem dL_law_238 : decode cL_law 238 = .ok (.ireturn, 1) := by decide +kernel
theorem dL_law_239 : decode cL_law 239 = .ok (.aload_n 1, 1) := by decide +kernel
theorem dL_law_240 : decode cL_law 240 = .ok (.aload_n 0, 1) := by decide +kernel
theorem dL_law_241 : decode cL_law 241 = .ok (.iload_n 3, 1) := by decide +kernel
theorem dL_law_242 : decode cL_law 242 = .ok (.iconst 1, 1) := by decide +kernel
theorem dL_law_243 : decode cL_law 243 = .ok (.iadd, 1) := by decide +kernel
theorem dL_law_244 : decode cL_law 244 = .ok (.iaload, 1) := by decide +kernel
theorem dL_law_245 : decode cL_law 245 = .ok (.aload_n 0, 1) := by decide +kernel
theorem dL_law_246 : decode cL_law 246 = .ok (.iload_n 3, 1) := by decide +kernel
theorem dL_law_247 : decode cL_law 247 = .ok (.iconst 2, 1) := by decide +kernel
theorem dL_law_248 : decode cL_law 248 = .ok (.iadd, 1) := by decide +kernel
theorem dL_law_249 : decode cL_law 249 = .ok (.iaload, 1) := by decide +kernel
theorem dL_law_250 : decode cL_law 250 = .ok (.ifCond .eq 7, 3) := by decide +kernel
theorem dL_law_253 : decode cL_law 253 = .ok (.iconst 1, 1) := by decide +kernel
theorem dL_law_254 : decode cL_law 254 = .ok (.goto 4, 3) := by decide +kernel
theorem dL_law_257 : decode cL_law 257 = .ok (.iconst 0, 1) := by decide +kernel
theorem dL_law_258 : decode cL_law 258 = .ok (.invokevirtual 18, 3) := by decide +kernel
theorem dL_law_261 : decode cL_law 261 = .ok (.aload_n 2, 1) := by decide +kernel
theorem dL_law_262 : decode cL_law 262 = .ok (.aload_n 0, 1) := by decide +kernel
theorem dL_law_263 : decode cL_law 263 = .ok (.iload_n 3, 1) := by decide +kernel
theorem dL_law_264 : decode cL_law 264 = .ok (.iconst 1, 1) := by decide +kernel
theorem dL_law_265 : decode cL_law 265 = .ok (.iadd, 1) := by decide +kernel
theorem dL_law_266 : decode cL_law 266 = .ok (.iaload, 1) := by decide +kernel
theorem dL_law_267 : decode cL_law 267 = .ok (.aload_n 0, 1) := by decide +kernel
theorem dL_law_268 : decode cL_law 268 = .ok (.iload_n 3, 1) := by decide +kernel
theorem dL_law_269 : decode cL_law 269 = .ok (.iconst 2, 1) := by decide +kernel
theorem dL_law_270 : decode cL_law 270 = .ok (.iadd, 1) := by decide +kernel
theorem dL_law_271 : decode cL_law 271 = .ok (.iaload, 1) := by decide +kernel
theorem dL_law_272 : decode cL_law 272 = .ok (.ifCond .eq 7, 3) := by decide +kernel
theorem dL_law_275 : decode cL_law 275 = .ok (.iconst 1, 1) := by decide +kernel
theorem dL_law_276 : decode cL_law 276 = .ok (.goto 4, 3) := by decide +kernel
theorem dL_law_279 : decode cL_law 279 = .ok (.iconst 0, 1) := by decide +kernel
theorem dL_law_280 : decode cL_law 280 = .ok (.invokevirtual 22, 3) := by decide +kernel
theorem dL_law_283 : decode cL_law 283 = .ok (.if_icmp .eq 1128, 3) := by decide +kernel
theorem dL_law_286 : decode cL_law 286 = .ok (.iconst 0, 1) := by decide +kernel
theorem dL_law_287 : decode cL_law 287 = .ok (.ireturn, 1) := by decide +kernel
theorem dL_law_288 : decode cL_law 288 = .ok (.aload_n 1, 1) := by decide +kernel
theorem dL_law_289 : decode cL_law 289 = .ok (.aload_n 0, 1) := by decide +kernel
theorem dL_law_290 : decode cL_law 290 = .ok (.iload_n 3, 1) := by decide +kernel
theorem dL_law_291 : decode cL_law 291 = .ok (.iconst 1, 1) := by decide +kernel
theorem dL_law_292 : decode cL_law 292 = .ok (.iadd, 1) := by decide +kernel
theorem dL_law_293 : decode cL_law 293 = .ok (.iaload, 1) := by decide +kernel
theorem dL_law_294 : decode cL_law 294 = .ok (.aload_n 0, 1) := by decide +kernel
theorem dL_law_295 : decode cL_law 295 = .ok (.iload_n 3, 1) := by decide +kernel
theorem dL_law_296 : decode cL_law 296 = .ok (.iconst 2, 1) := by decide +kernel
theorem dL_law_297 : decode cL_law 297 = .ok (.iadd, 1) := by decide +kernel
theorem dL_law_298 : decode cL_law 298 = .ok (.iaload, 1) := by decide +kernel
theorem dL_law_299 : decode cL_law 299 = .ok (.invokevirtual 23, 3) := by decide +kernel
theorem dL_law_302 : decode cL_law 302 = .ok (.aload_n 2, 1) := by decide +kernel
theorem dL_law_303 : decode cL_law 303 = .ok (.aload_n 0, 1) := by decide +kernel
theorem dL_law_304 : decode cL_law 304 = .ok (.iload_n 3, 1) := by decide +kernel
theorem dL_law_305 : decode cL_law 305 = .ok (.iconst 1, 1) := by decide +kernel
theorem dL_law_306 : decode cL_law 306 = .ok (.iadd, 1) := by decide +kernel
theorem dL_law_307 : decode cL_law 307 = .ok (.iaload, 1) := by decide +kernel
theorem dL_law_308 : decode cL_law 308 = .ok (.aload_n 0, 1) := by decide +kernel
theorem dL_law_309 : decode cL_law 309 = .ok (.iload_n 3, 1) := by decide +kernel
theorem dL_law_310 : decode cL_law 310 = .ok (.iconst 2, 1) := by decide +kernel
theorem dL_law_311 : decode cL_law 311 = .ok (.iadd, 1) := by decide +kernel
theorem dL_law_312 : decode cL_law 312 = .ok (.iaload, 1) := by decide +kernel
theorem dL_law_313 : decode cL_law 313 = .ok (.invokevirtual 27, 3) := by decide +kernel
theorem dL_law_316 : decode cL_law 316 = .ok (.if_icmp .eq 1095, 3) := by decide +kernel
theorem dL_law_319 : decode cL_law 319 = .ok (.iconst 0, 1) := by decide +kernel
theorem dL_law_320 : decode cL_law 320 = .ok (.ireturn, 1) := by decide +kernel
theorem dL_law_321 : decode cL_law 321 = .ok (.aload_n 1, 1) := by decide +kernel
theorem dL_law_322 : decode cL_law 322 = .ok (.aload_n 0, 1) := by decide +kernel
theorem dL_law_323 : decode cL_law 323 = .ok (.iload_n 3, 1) := by decide +kernel
theorem dL_law_324 : decode cL_law 324 = .ok (.iconst 1, 1) := by decide +kernel
theorem dL_law_325 : decode cL_law 325 = .ok (.iadd, 1) := by decide +kernel
theorem dL_law_326 : decode cL_law 326 = .ok (.iaload, 1) := by decide +kernel
theorem dL_law_327 : decode cL_law 327 = .ok (.aload_n 0, 1) := by decide +kernel
theorem dL_law_328 : decode cL_law 328 = .ok (.iload_n 3, 1) := by decide +kernel
theorem dL_law_329 : decode cL_law 329 = .ok (.iconst 2, 1) := by decide +kernel
theorem dL_law_330 : decode cL_law 330 = .ok (.iadd, 1) := by decide +kernel
theorem dL_law_331 : decode cL_law 331 = .ok (.iaload, 1) := by decide +kernel
theorem dL_law_332 : decode cL_law 332 = .ok (.aload_n 0, 1) := by decide +kernel
theorem dL_law_333 : decode cL_law 333 = .ok (.iload_n 3, 1) := by decide +kernel
theorem dL_law_334 : decode cL_law 334 = .ok (.iconst 3, 1) := by decide +kernel
theorem dL_law_335 : decode cL_law 335 = .ok (.iadd, 1) := by decide +kernel
theorem dL_law_336 : decode cL_law 336 = .ok (.iaload, 1) := by decide +kernel
theorem dL_law_337 : decode cL_law 337 = .ok (.invokevirtual 28, 3) := by decide +kernel
theorem dL_law_340 : decode cL_law 340 = .ok (.aload_n 2, 1) := by decide +kernel
theorem dL_law_341 : decode cL_law 341 = .ok (.aload_n 0, 1) := by decide +kernel
theorem dL_law_342 : decode cL_law 342 = .ok (.iload_n 3, 1) := by decide +kernel
theorem dL_law_343 : decode cL_law 343 = .ok (.iconst 1, 1) := by decide +kernel
theorem dL_law_344 : decode cL_law 344 = .ok (.iadd, 1) := by decide +kernel
theorem dL_law_345 : decode cL_law 345 = .ok (.iaload, 1) := by decide +kernel
theorem dL_law_346 : decode cL_law 346 = .ok (.aload_n 0, 1) := by decide +kernel
theorem dL_law_347 : decode cL_law 347 = .ok (.iload_n 3, 1) := by decide +kernel
theorem dL_law_348 : decode cL_law 348 = .ok (.iconst 2, 1) := by decide +kernel
theorem dL_law_349 : decode cL_law 349 = .ok (.iadd, 1) := by decide +kernel
theorem dL_law_350 : decode cL_law 350 = .ok (.iaload, 1) := by decide +kernel
theorem dL_law_351 : decode cL_law 351 = .ok (.aload_n 0, 1) := by decide +kernel
theorem dL_law_352 : decode cL_law 352 = .ok (.iload_n 3, 1) := by decide +kernel
theorem dL_law_353 : decode cL_law 353 = .ok (.iconst 3, 1) := by decide +kernel
theorem dL_law_354 : decode cL_law 354 = .ok (.iadd, 1) := by decide +kernel
theorem dL_law_355 : decode cL_law 355 = .ok (.iaload, 1) := by decide +kernel
theorem dL_law_356 : decode cL_law 356 = .ok (.invokevirtual 32, 3) := by decide +kernel
theorem dL_law_359 : decode cL_law 359 = .ok (.if_icmp .eq 1052, 3) := by decide +kernel
theorem dL_law_362 : decode cL_law 362 = .ok (.iconst 0, 1) := by decide +kernel
theorem dL_law_363 : decode cL_law 363 = .ok (.ireturn, 1) := by decide +kernel
theorem dL_law_364 : decode cL_law 364 = .ok (.aload_n 1, 1) := by decide +kernel
theorem dL_law_365 : decode cL_law 365 = .ok (.aload_n 0, 1) := by decide +kernel
theorem dL_law_366 : decode cL_law 366 = .ok (.iload_n 3, 1) := by decide +kernel
theorem dL_law_367 : decode cL_law 367 = .ok (.iconst 1, 1) := by decide +kernel
theorem dL_law_368 : decode cL_law 368 = .ok (.iadd, 1) := by decide +kernel
theorem dL_law_369 : decode cL_law 369 = .ok (.iaload, 1) := by decide +kernel
theorem dL_law_370 : decode cL_law 370 = .ok (.invokevirtual 33, 3) := by decide +kernel
theorem dL_law_373 : decode cL_law 373 = .ok (.aload_n 2, 1) := by decide +kernel
theorem dL_law_374 : decode cL_law 374 = .ok (.aload_n 0, 1) := by decide +kernel
theorem dL_law_375 : decode cL_law 375 = .ok (.iload_n 3, 1) := by decide +kernel
theorem dL_law_376 : decode cL_law 376 = .ok (.iconst 1, 1) := by decide +kernel
theorem dL_law_377 : decode cL_law 377 = .ok (.iadd, 1) := by decide +kernel
theorem dL_law_378 : decode cL_law 378 = .ok (.iaload, 1) := by decide +kernel
theorem dL_law_379 : decode cL_law 379 = .ok (.invokevirtual 37, 3) := by decide +kernel
theorem dL_law_382 : decode cL_law 382 = .ok (.if_icmp .eq 1029, 3) := by decide +kernel
theorem dL_law_385 : decode cL_law 385 = .ok (.iconst 0, 1) := by decide +kernel
theorem dL_law_386 : decode cL_law 386 = .ok (.ireturn, 1) := by decide +kernel
theorem dL_law_387 : decode cL_law 387 = .ok (.aload_n 1, 1) := by decide +kernel
theorem dL_law_388 : decode cL_law 388 = .ok (.aload_n 0, 1) := by decide +kernel
theorem dL_law_389 : decode cL_law 389 = .ok (.iload_n 3, 1) := by decide +kernel
theorem dL_law_390 : decode cL_law 390 = .ok (.iconst 1, 1) := by decide +kernel
theorem dL_law_391 : decode cL_law 391 = .ok (.iadd, 1) := by decide +kernel
theorem dL_law_392 : decode cL_law 392 = .ok (.iaload, 1) := by decide +kernel
theorem dL_law_393 : decode cL_law 393 = .ok (.aload_n 0, 1) := by decide +kernel
theorem dL_law_394 : decode cL_law 394 = .ok (.iload_n 3, 1) := by decide +kernel
theorem dL_law_395 : decode cL_law 395 = .ok (.iconst 2, 1) := by decide +kernel
theorem dL_law_396 : decode cL_law 396 = .ok (.iadd, 1) := by decide +kernel
theorem dL_law_397 : decode cL_law 397 = .ok (.iaload, 1) := by decide +kernel
theorem dL_law_398 : decode cL_law 398 = .ok (.aload_n 0, 1) := by decide +kernel
theorem dL_law_399 : decode cL_law 399 = .ok (.iload_n 3, 1) := by decide +kernel
theorem dL_law_400 : decode cL_law 400 = .ok (.iconst 3, 1) := by decide +kernel
theorem dL_law_401 : decode cL_law 401 = .ok (.iadd, 1) := by decide +kernel
theorem dL_law_402 : decode cL_law 402 = .ok (.iaload, 1) := by decide +kernel
theorem dL_law_403 : decode cL_law 403 = .ok (.aload_n 0, 1) := by decide +kernel
theorem dL_law_404 : decode cL_law 404 = .ok (.iload_n 3, 1) := by decide +kernel
theorem dL_law_405 : decode cL_law 405 = .ok (.iconst 4, 1) := by decide +kernel
theorem dL_law_406 : decode cL_law 406 = .ok (.iadd, 1) := by decide +kernel
theorem dL_law_407 : decode cL_law 407 = .ok (.iaload, 1) := by decide +kernel
theorem dL_law_408 : decode cL_law 408 = .ok (.invokevirtual 38, 3) := by decide +kernel
theorem dL_law_411 : decode cL_law 411 = .ok (.aload_n 2, 1) := by decide +kernel
theorem dL_law_412 : decode cL_law 412 = .ok (.aload_n 0, 1) := by decide +kernel
theorem dL_law_413 : decode cL_law 413 = .ok (.iload_n 3, 1) := by decide +kernel
theorem dL_law_414 : decode cL_law 414 = .ok (.iconst 1, 1) := by decide +kernel
theorem dL_law_415 : decode cL_law 415 = .ok (.iadd, 1) := by decide +kernel
theorem dL_law_416 : decode cL_law 416 = .ok (.iaload, 1) := by decide +kernel
theorem dL_law_417 : decode cL_law 417 = .ok (.aload_n 0, 1) := by decide +kernel
theorem dL_law_418 : decode cL_law 418 = .ok (.iload_n 3, 1) := by decide +kernel
theorem dL_law_419 : decode cL_law 419 = .ok (.iconst 2, 1) := by decide +kernel
theorem dL_law_420 : decode cL_law 420 = .ok (.iadd, 1) := by decide +kernel
theorem dL_law_421 : decode cL_law 421 = .ok (.iaload, 1) := by decide +kernel
theorem dL_law_422 : decode cL_law 422 = .ok (.aload_n 0, 1) := by decide +kernel
theorem dL_law_423 : decode cL_law 423 = .ok (.iload_n 3, 1) := by decide +kernel
theorem dL_law_424 : decode cL_law 424 = .ok (.iconst 3, 1) := by decide +kernel
theorem dL_law_425 : decode cL_law 425 = .ok (.iadd, 1) := by decide +kernel
theorem dL_law_426 : decode cL_law 426 = .ok (.iaload, 1) := by decide +kernel
theorem dL_law_427 : decode cL_law 427 = .ok (.aload_n 0, 1) := by decide +kernel
theorem dL_law_428 : decode cL_law 428 = .ok (.iload_n 3, 1) := by decide +kernel
theorem dL_law_429 : decode cL_law 429 = .ok (.iconst 4, 1) := by decide +kernel
theorem dL_law_430 : decode cL_law 430 = .ok (.iadd, 1) := by decide +kernel
theorem dL_law_431 : decode cL_law 431 = .ok (.iaload, 1) := by decide +kernel
theorem dL_law_432 : decode cL_law 432 = .ok (.invokevirtual 42, 3) := by decide +kernel
theorem dL_law_435 : decode cL_law 435 = .ok (.if_icmp .eq 976, 3) := by decide +kernel
theorem dL_law_438 : decode cL_law 438 = .ok (.iconst 0, 1) := by decide +kernel
theorem dL_law_439 : decode cL_law 439 = .ok (.ireturn, 1) := by decide +kernel
theorem dL_law_440 : decode cL_law 440 = .ok (.aload_n 1, 1) := by decide +kernel
theorem dL_law_441 : decode cL_law 441 = .ok (.aload_n 0, 1) := by decide +kernel
theorem dL_law_442 : decode cL_law 442 = .ok (.iload_n 3, 1) := by decide +kernel
theorem dL_law_443 : decode cL_law 443 = .ok (.iconst 1, 1) := by decide +kernel
theorem dL_law_444 : decode cL_law 444 = .ok (.iadd, 1) := by decide +kernel
theorem dL_law_445 : decode cL_law 445 = .ok (.iaload, 1) := by decide +kernel
theorem dL_law_446 : decode cL_law 446 = .ok (.aload_n 0, 1) := by decide +kernel
theorem dL_law_447 : decode cL_law 447 = .ok (.iload_n 3, 1) := by decide +kernel
theorem dL_law_448 : decode cL_law 448 = .ok (.iconst 2, 1) := by decide +kernel
theorem dL_law_449 : decode cL_law 449 = .ok (.iadd, 1) := by decide +kernel
theorem dL_law_450 : decode cL_law 450 = .ok (.iaload, 1) := by decide +kernel
theorem dL_law_451 : decode cL_law 451 = .ok (.aload_n 0, 1) := by decide +kernel
theorem dL_law_452 : decode cL_law 452 = .ok (.iload_n 3, 1) := by decide +kernel
theorem dL_law_453 : decode cL_law 453 = .ok (.iconst 3, 1) := by decide +kernel
theorem dL_law_454 : decode cL_law 454 = .ok (.iadd, 1) := by decide +kernel
theorem dL_law_455 : decode cL_law 455 = .ok (.iaload, 1) := by decide +kernel
theorem dL_law_456 : decode cL_law 456 = .ok (.aload_n 0, 1) := by decide +kernel
theorem dL_law_457 : decode cL_law 457 = .ok (.iload_n 3, 1) := by decide +kernel
theorem dL_law_458 : decode cL_law 458 = .ok (.iconst 4, 1) := by decide +kernel
theorem dL_law_459 : decode cL_law 459 = .ok (.iadd, 1) := by decide +kernel
theorem dL_law_460 : decode cL_law 460 = .ok (.iaload, 1) := by decide +kernel
theorem dL_law_461 : decode cL_law 461 = .ok (.invokevirtual 43, 3) := by decide +kernel
theorem dL_law_464 : decode cL_law 464 = .ok (.aload_n 2, 1) := by decide +kernel
theorem dL_law_465 : decode cL_law 465 = .ok (.aload_n 0, 1) := by decide +kernel
theorem dL_law_466 : decode cL_law 466 = .ok (.iload_n 3, 1) := by decide +kernel
theorem dL_law_467 : decode cL_law 467 = .ok (.iconst 1, 1) := by decide +kernel
theorem dL_law_468 : decode cL_law 468 = .ok (.iadd, 1) := by decide +kernel
theorem dL_law_469 : decode cL_law 469 = .ok (.iaload, 1) := by decide +kernel
theorem dL_law_470 : decode cL_law 470 = .ok (.aload_n 0, 1) := by decide +kernel
theorem dL_law_471 : decode cL_law 471 = .ok (.iload_n 3, 1) := by decide +kernel
theorem dL_law_472 : decode cL_law 472 = .ok (.iconst 2, 1) := by decide +kernel
theorem dL_law_473 : decode cL_law 473 = .ok (.iadd, 1) := by decide +kernel
theorem dL_law_474 : decode cL_law 474 = .ok (.iaload, 1) := by decide +kernel
theorem dL_law_475 : decode cL_law 475 = .ok (.aload_n 0, 1) := by decide +kernel
theorem dL_law_476 : decode cL_law 476 = .ok (.iload_n 3, 1) := by decide +kernel
theorem dL_law_477 : decode cL_law 477 = .ok (.iconst 3, 1) := by decide +kernel
theorem dL_law_478 : decode cL_law 478 = .ok (.iadd, 1) := by decide +kernel
theorem dL_law_479 : decode cL_law 479 = .ok (.iaload, 1) := by decide +kernel
theorem dL_law_480 : decode cL_law 480 = .ok (.aload_n 0, 1) := by decide +kernel
theorem dL_law_481 : decode cL_law 481 = .ok (.iload_n 3, 1) := by decide +kernel
theorem dL_law_482 : decode cL_law 482 = .ok (.iconst 4, 1) := by decide +kernel
theorem dL_law_483 : decode cL_law 483 = .ok (.iadd, 1) := by decide +kernel
theorem dL_law_484 : decode cL_law 484 = .ok (.iaload, 1) := by decide +kernel
theorem dL_law_485 : decode cL_law 485 = .ok (.invokevirtual 46, 3) := by decide +kernel
theorem dL_law_488 : decode cL_law 488 = .ok (.if_icmp .eq 923, 3) := by decide +kernel
theorem dL_law_491 : decode cL_law 491 = .ok (.iconst 0, 1) := by decide +kernel
theorem dL_law_492 : decode cL_law 492 = .ok (.ireturn, 1) := by decide +kernel
theorem dL_law_493 : decode cL_law 493 = .ok (.aload_n 1, 1) := by decide +kernel
theorem dL_law_494 : decode cL_law 494 = .ok (.aload_n 0, 1) := by decide +kernel
theorem dL_law_495 : decode cL_law 495 = .ok (.iload_n 3, 1) := by decide +kernel
theorem dL_law_496 : decode cL_law 496 = .ok (.iconst 1, 1) := by decide +kernel
theorem dL_law_497 : decode cL_law 497 = .ok (.iadd, 1) := by decide +kernel
theorem dL_law_498 : decode cL_law 498 = .ok (.iaload, 1) := by decide +kernel
theorem dL_law_499 : decode cL_law 499 = .ok (.aload_n 0, 1) := by decide +kernel
theorem dL_law_500 : decode cL_law 500 = .ok (.iload_n 3, 1) := by decide +kernel
theorem dL_law_501 : decode cL_law 501 = .ok (.iconst 2, 1) := by decide +kernel
theorem dL_law_502 : decode cL_law 502 = .ok (.iadd, 1) := by decide +kernel
theorem dL_law_503 : decode cL_law 503 = .ok (.iaload, 1) := by decide +kernel
theorem dL_law_504 : decode cL_law 504 = .ok (.aload_n 0, 1) := by decide +kernel
theorem dL_law_505 : decode cL_law 505 = .ok (.iload_n 3, 1) := by decide +kernel
theorem dL_law_506 : decode cL_law 506 = .ok (.iconst 3, 1) := by decide +kernel
theorem dL_law_507 : decode cL_law 507 = .ok (.iadd, 1) := by decide +kernel
theorem dL_law_508 : decode cL_law 508 = .ok (.iaload, 1) := by decide +kernel
theorem dL_law_509 : decode cL_law 509 = .ok (.aload_n 0, 1) := by decide +kernel
theorem dL_law_510 : decode cL_law 510 = .ok (.iload_n 3, 1) := by decide +kernel
theorem dL_law_511 : decode cL_law 511 = .ok (.iconst 4, 1) := by decide +kernel
theorem dL_law_512 : decode cL_law 512 = .ok (.iadd, 1) := by decide +kernel
theorem dL_law_513 : decode cL_law 513 = .ok (.iaload, 1) := by decide +kernel
theorem dL_law_514 : decode cL_law 514 = .ok (.aload_n 0, 1) := by decide +kernel
theorem dL_law_515 : decode cL_law 515 = .ok (.iload_n 3, 1) := by decide +kernel
theorem dL_law_516 : decode cL_law 516 = .ok (.iconst 5, 1) := by decide +kernel
theorem dL_law_517 : decode cL_law 517 = .ok (.iadd, 1) := by decide +kernel
theorem dL_law_518 : decode cL_law 518 = .ok (.iaload, 1) := by decide +kernel
theorem dL_law_519 : decode cL_law 519 = .ok (.aload_n 0, 1) := by decide +kernel
theorem dL_law_520 : decode cL_law 520 = .ok (.iload_n 3, 1) := by decide +kernel
theorem dL_law_521 : decode cL_law 521 = .ok (.bipush 6, 2) := by decide +kernel
theorem dL_law_523 : decode cL_law 523 = .ok (.iadd, 1) := by decide +kernel
theorem dL_law_524 : decode cL_law 524 = .ok (.iaload, 1) := by decide +kernel
theorem dL_law_525 : decode cL_law 525 = .ok (.invokevirtual 47, 3) := by decide +kernel
theorem dL_law_528 : decode cL_law 528 = .ok (.aload_n 2, 1) := by decide +kernel
theorem dL_law_529 : decode cL_law 529 = .ok (.aload_n 0, 1) := by decide +kernel
theorem dL_law_530 : decode cL_law 530 = .ok (.iload_n 3, 1) := by decide +kernel
theorem dL_law_531 : decode cL_law 531 = .ok (.iconst 1, 1) := by decide +kernel
theorem dL_law_532 : decode cL_law 532 = .ok (.iadd, 1) := by decide +kernel
theorem dL_law_533 : decode cL_law 533 = .ok (.iaload, 1) := by decide +kernel
theorem dL_law_534 : decode cL_law 534 = .ok (.aload_n 0, 1) := by decide +kernel
theorem dL_law_535 : decode cL_law 535 = .ok (.iload_n 3, 1) := by decide +kernel
theorem dL_law_536 : decode cL_law 536 = .ok (.iconst 2, 1) := by decide +kernel
theorem dL_law_537 : decode cL_law 537 = .ok (.iadd, 1) := by decide +kernel
theorem dL_law_538 : decode cL_law 538 = .ok (.iaload, 1) := by decide +kernel
theorem dL_law_539 : decode cL_law 539 = .ok (.aload_n 0, 1) := by decide +kernel
theorem dL_law_540 : decode cL_law 540 = .ok (.iload_n 3, 1) := by decide +kernel
theorem dL_law_541 : decode cL_law 541 = .ok (.iconst 3, 1) := by decide +kernel
theorem dL_law_542 : decode cL_law 542 = .ok (.iadd, 1) := by decide +kernel
theorem dL_law_543 : decode cL_law 543 = .ok (.iaload, 1) := by decide +kernel
theorem dL_law_544 : decode cL_law 544 = .ok (.aload_n 0, 1) := by decide +kernel
theorem dL_law_545 : decode cL_law 545 = .ok (.iload_n 3, 1) := by decide +kernel
theorem dL_law_546 : decode cL_law 546 = .ok (.iconst 4, 1) := by decide +kernel
theorem dL_law_547 : decode cL_law 547 = .ok (.iadd, 1) := by decide +kernel
theorem dL_law_548 : decode cL_law 548 = .ok (.iaload, 1) := by decide +kernel
theorem dL_law_549 : decode cL_law 549 = .ok (.aload_n 0, 1) := by decide +kernel
theorem dL_law_550 : decode cL_law 550 = .ok (.iload_n 3, 1) := by decide +kernel
theorem dL_law_551 : decode cL_law 551 = .ok (.iconst 5, 1) := by decide +kernel
theorem dL_law_552 : decode cL_law 552 = .ok (.iadd, 1) := by decide +kernel
theorem dL_law_553 : decode cL_law 553 = .ok (.iaload, 1) := by decide +kernel
theorem dL_law_554 : decode cL_law 554 = .ok (.aload_n 0, 1) := by decide +kernel
theorem dL_law_555 : decode cL_law 555 = .ok (.iload_n 3, 1) := by decide +kernel
theorem dL_law_556 : decode cL_law 556 = .ok (.bipush 6, 2) := by decide +kernel
theorem dL_law_558 : decode cL_law 558 = .ok (.iadd, 1) := by decide +kernel
theorem dL_law_559 : decode cL_law 559 = .ok (.iaload, 1) := by decide +kernel
theorem dL_law_560 : decode cL_law 560 = .ok (.invokevirtual 51, 3) := by decide +kernel
theorem dL_law_563 : decode cL_law 563 = .ok (.if_icmp .eq 848, 3) := by decide +kernel
theorem dL_law_566 : decode cL_law 566 = .ok (.iconst 0, 1) := by decide +kernel
theorem dL_law_567 : decode cL_law 567 = .ok (.ireturn, 1) := by decide +kernel
theorem dL_law_568 : decode cL_law 568 = .ok (.aload_n 1, 1) := by decide +kernel
theorem dL_law_569 : decode cL_law 569 = .ok (.aload_n 0, 1) := by decide +kernel
theorem dL_law_570 : decode cL_law 570 = .ok (.iload_n 3, 1) := by decide +kernel
theorem dL_law_571 : decode cL_law 571 = .ok (.iconst 1, 1) := by decide +kernel
theorem dL_law_572 : decode cL_law 572 = .ok (.iadd, 1) := by decide +kernel
theorem dL_law_573 : decode cL_law 573 = .ok (.iaload, 1) := by decide +kernel
theorem dL_law_574 : decode cL_law 574 = .ok (.aload_n 0, 1) := by decide +kernel
theorem dL_law_575 : decode cL_law 575 = .ok (.iload_n 3, 1) := by decide +kernel
theorem dL_law_576 : decode cL_law 576 = .ok (.iconst 2, 1) := by decide +kernel
theorem dL_law_577 : decode cL_law 577 = .ok (.iadd, 1) := by decide +kernel
theorem dL_law_578 : decode cL_law 578 = .ok (.iaload, 1) := by decide +kernel
theorem dL_law_579 : decode cL_law 579 = .ok (.aload_n 0, 1) := by decide +kernel
theorem dL_law_580 : decode cL_law 580 = .ok (.iload_n 3, 1) := by decide +kernel
theorem dL_law_581 : decode cL_law 581 = .ok (.iconst 3, 1) := by decide +kernel
theorem dL_law_582 : decode cL_law 582 = .ok (.iadd, 1) := by decide +kernel
theorem dL_law_583 : decode cL_law 583 = .ok (.iaload, 1) := by decide +kernel
theorem dL_law_584 : decode cL_law 584 = .ok (.aload_n 0, 1) := by decide +kernel
theorem dL_law_585 : decode cL_law 585 = .ok (.iload_n 3, 1) := by decide +kernel
theorem dL_law_586 : decode cL_law 586 = .ok (.iconst 4, 1) := by decide +kernel
theorem dL_law_587 : decode cL_law 587 = .ok (.iadd, 1) := by decide +kernel
theorem dL_law_588 : decode cL_law 588 = .ok (.iaload, 1) := by decide +kernel
theorem dL_law_589 : decode cL_law 589 = .ok (.invokevirtual 52, 3) := by decide +kernel
theorem dL_law_592 : decode cL_law 592 = .ok (.aload_n 2, 1) := by decide +kernel
theorem dL_law_593 : decode cL_law 593 = .ok (.aload_n 0, 1) := by decide +kernel
theorem dL_law_594 : decode cL_law 594 = .ok (.iload_n 3, 1) := by decide +kernel
theorem dL_law_595 : decode cL_law 595 = .ok (.iconst 1, 1) := by decide +kernel
theorem dL_law_596 : decode cL_law 596 = .ok (.iadd, 1) := by decide +kernel
theorem dL_law_597 : decode cL_law 597 = .ok (.iaload, 1) := by decide +kernel
theorem dL_law_598 : decode cL_law 598 = .ok (.aload_n 0, 1) := by decide +kernel
theorem dL_law_599 : decode cL_law 599 = .ok (.iload_n 3, 1) := by decide +kernel
theorem dL_law_600 : decode cL_law 600 = .ok (.iconst 2, 1) := by decide +kernel
theorem dL_law_601 : decode cL_law 601 = .ok (.iadd, 1) := by decide +kernel
theorem dL_law_602 : decode cL_law 602 = .ok (.iaload, 1) := by decide +kernel
theorem dL_law_603 : decode cL_law 603 = .ok (.aload_n 0, 1) := by decide +kernel
theorem dL_law_604 : decode cL_law 604 = .ok (.iload_n 3, 1) := by decide +kernel
theorem dL_law_605 : decode cL_law 605 = .ok (.iconst 3, 1) := by decide +kernel
theorem dL_law_606 : decode cL_law 606 = .ok (.iadd, 1) := by decide +kernel
theorem dL_law_607 : decode cL_law 607 = .ok (.iaload, 1) := by decide +kernel
theorem dL_law_608 : decode cL_law 608 = .ok (.aload_n 0, 1) := by decide +kernel
theorem dL_law_609 : decode cL_law 609 = .ok (.iload_n 3, 1) := by decide +kernel
theorem dL_law_610 : decode cL_law 610 = .ok (.iconst 4, 1) := by decide +kernel
theorem dL_law_611 : decode cL_law 611 = .ok (.iadd, 1) := by decide +kernel
theorem dL_law_612 : decode cL_law 612 = .ok (.iaload, 1) := by decide +kernel
theorem dL_law_613 : decode cL_law 613 = .ok (.invokevirtual 55, 3) := by decide +kernel
theorem dL_law_616 : decode cL_law 616 = .ok (.if_icmp .eq 795, 3) := by decide +kernel
theorem dL_law_619 : decode cL_law 619 = .ok (.iconst 0, 1) := by decide +kernel
theorem dL_law_620 : decode cL_law 620 = .ok (.ireturn, 1) := by decide +kernel
theorem dL_law_621 : decode cL_law 621 = .ok (.aload_n 1, 1) := by decide +kernel
theorem dL_law_622 : decode cL_law 622 = .ok (.aload_n 0, 1) := by decide +kernel
theorem dL_law_623 : decode cL_law 623 = .ok (.iload_n 3, 1) := by decide +kernel
theorem dL_law_624 : decode cL_law 624 = .ok (.iconst 1, 1) := by decide +kernel
theorem dL_law_625 : decode cL_law 625 = .ok (.iadd, 1) := by decide +kernel
theorem dL_law_626 : decode cL_law 626 = .ok (.iaload, 1) := by decide +kernel
theorem dL_law_627 : decode cL_law 627 = .ok (.aload_n 0, 1) := by decide +kernel
theorem dL_law_628 : decode cL_law 628 = .ok (.iload_n 3, 1) := by decide +kernel
theorem dL_law_629 : decode cL_law 629 = .ok (.iconst 2, 1) := by decide +kernel
theorem dL_law_630 : decode cL_law 630 = .ok (.iadd, 1) := by decide +kernel
theorem dL_law_631 : decode cL_law 631 = .ok (.iaload, 1) := by decide +kernel
theorem dL_law_632 : decode cL_law 632 = .ok (.aload_n 0, 1) := by decide +kernel
theorem dL_law_633 : decode cL_law 633 = .ok (.iload_n 3, 1) := by decide +kernel
theorem dL_law_634 : decode cL_law 634 = .ok (.iconst 3, 1) := by decide +kernel
theorem dL_law_635 : decode cL_law 635 = .ok (.iadd, 1) := by decide +kernel
theorem dL_law_636 : decode cL_law 636 = .ok (.iaload, 1) := by decide +kernel
theorem dL_law_637 : decode cL_law 637 = .ok (.invokevirtual 56, 3) := by decide +kernel
theorem dL_law_640 : decode cL_law 640 = .ok (.aload_n 2, 1) := by decide +kernel
theorem dL_law_641 : decode cL_law 641 = .ok (.aload_n 0, 1) := by decide +kernel
theorem dL_law_642 : decode cL_law 642 = .ok (.iload_n 3, 1) := by decide +kernel
theorem dL_law_643 : decode cL_law 643 = .ok (.iconst 1, 1) := by decide +kernel
theorem dL_law_644 : decode cL_law 644 = .ok (.iadd, 1) := by decide +kernel
theorem dL_law_645 : decode cL_law 645 = .ok (.iaload, 1) := by decide +kernel
theorem dL_law_646 : decode cL_law 646 = .ok (.aload_n 0, 1) := by decide +kernel
theorem dL_law_647 : decode cL_law 647 = .ok (.iload_n 3, 1) := by decide +kernel
theorem dL_law_648 : decode cL_law 648 = .ok (.iconst 2, 1) := by decide +kernel
theorem dL_law_649 : decode cL_law 649 = .ok (.iadd, 1) := by decide +kernel
theorem dL_law_650 : decode cL_law 650 = .ok (.iaload, 1) := by decide +kernel
theorem dL_law_651 : decode cL_law 651 = .ok (.aload_n 0, 1) := by decide +kernel
theorem dL_law_652 : decode cL_law 652 = .ok (.iload_n 3, 1) := by decide +kernel
theorem dL_law_653 : decode cL_law 653 = .ok (.iconst 3, 1) := by decide +kernel
theorem dL_law_654 : decode cL_law 654 = .ok (.iadd, 1) := by decide +kernel
theorem dL_law_655 : decode cL_law 655 = .ok (.iaload, 1) := by decide +kernel
theorem dL_law_656 : decode cL_law 656 = .ok (.invokevirtual 59, 3) := by decide +kernel
theorem dL_law_659 : decode cL_law 659 = .ok (.if_icmp .eq 752, 3) := by decide +kernel
theorem dL_law_662 : decode cL_law 662 = .ok (.iconst 0, 1) := by decide +kernel
theorem dL_law_663 : decode cL_law 663 = .ok (.ireturn, 1) := by decide +kernel
theorem dL_law_664 : decode cL_law 664 = .ok (.aload_n 1, 1) := by decide +kernel
theorem dL_law_665 : decode cL_law 665 = .ok (.aload_n 0, 1) := by decide +kernel
theorem dL_law_666 : decode cL_law 666 = .ok (.iload_n 3, 1) := by decide +kernel
theorem dL_law_667 : decode cL_law 667 = .ok (.iconst 1, 1) := by decide +kernel
theorem dL_law_668 : decode cL_law 668 = .ok (.iadd, 1) := by decide +kernel
theorem dL_law_669 : decode cL_law 669 = .ok (.iaload, 1) := by decide +kernel
theorem dL_law_670 : decode cL_law 670 = .ok (.aload_n 0, 1) := by decide +kernel
theorem dL_law_671 : decode cL_law 671 = .ok (.iload_n 3, 1) := by decide +kernel
theorem dL_law_672 : decode cL_law 672 = .ok (.iconst 2, 1) := by decide +kernel
theorem dL_law_673 : decode cL_law 673 = .ok (.iadd, 1) := by decide +kernel
theorem dL_law_674 : decode cL_law 674 = .ok (.iaload, 1) := by decide +kernel
theorem dL_law_675 : decode cL_law 675 = .ok (.invokevirtual 60, 3) := by decide +kernel
theorem dL_law_678 : decode cL_law 678 = .ok (.aload_n 2, 1) := by decide +kernel
theorem dL_law_679 : decode cL_law 679 = .ok (.aload_n 0, 1) := by decide +kernel
theorem dL_law_680 : decode cL_law 680 = .ok (.iload_n 3, 1) := by decide +kernel
theorem dL_law_681 : decode cL_law 681 = .ok (.iconst 1, 1) := by decide +kernel
theorem dL_law_682 : decode cL_law 682 = .ok (.iadd, 1) := by decide +kernel
theorem dL_law_683 : decode cL_law 683 = .ok (.iaload, 1) := by decide +kernel
theorem dL_law_684 : decode cL_law 684 = .ok (.aload_n 0, 1) := by decide +kernel
theorem dL_law_685 : decode cL_law 685 = .ok (.iload_n 3, 1) := by decide +kernel
theorem dL_law_686 : decode cL_law 686 = .ok (.iconst 2, 1) := by decide +kernel
theorem dL_law_687 : decode cL_law 687 = .ok (.iadd, 1) := by decide +kernel
theorem dL_law_688 : decode cL_law 688 = .ok (.iaload, 1) := by decide +kernel
theorem dL_law_689 : decode cL_law 689 = .ok (.invokevirtual 63, 3) := by decide +kernel
theorem dL_law_692 : decode cL_law 692 = .ok (.if_icmp .eq 719, 3) := by decide +kernel
theorem dL_law_695 : decode cL_law 695 = .ok (.iconst 0, 1) := by decide +kernel
theorem dL_law_696 : decode cL_law 696 = .ok (.ireturn, 1) := by decide +kernel
theorem dL_law_697 : decode cL_law 697 = .ok (.aload_n 1, 1) := by decide +kernel
theorem dL_law_698 : decode cL_law 698 = .ok (.aload_n 0, 1) := by decide +kernel
theorem dL_law_699 : decode cL_law 699 = .ok (.iload_n 3, 1) := by decide +kernel
theorem dL_law_700 : decode cL_law 700 = .ok (.iconst 1, 1) := by decide +kernel
theorem dL_law_701 : decode cL_law 701 = .ok (.iadd, 1) := by decide +kernel
theorem dL_law_702 : decode cL_law 702 = .ok (.iaload, 1) := by decide +kernel
theorem dL_law_703 : decode cL_law 703 = .ok (.aload_n 0, 1) := by decide +kernel
theorem dL_law_704 : decode cL_law 704 = .ok (.iload_n 3, 1) := by decide +kernel
theorem dL_law_705 : decode cL_law 705 = .ok (.iconst 2, 1) := by decide +kernel
theorem dL_law_706 : decode cL_law 706 = .ok (.iadd, 1) := by decide +kernel
theorem dL_law_707 : decode cL_law 707 = .ok (.iaload, 1) := by decide +kernel
theorem dL_law_708 : decode cL_law 708 = .ok (.invokevirtual 64, 3) := by decide +kernel
theorem dL_law_711 : decode cL_law 711 = .ok (.aload_n 2, 1) := by decide +kernel
theorem dL_law_712 : decode cL_law 712 = .ok (.aload_n 0, 1) := by decide +kernel
theorem dL_law_713 : decode cL_law 713 = .ok (.iload_n 3, 1) := by decide +kernel
theorem dL_law_714 : decode cL_law 714 = .ok (.iconst 1, 1) := by decide +kernel
theorem dL_law_715 : decode cL_law 715 = .ok (.iadd, 1) := by decide +kernel
theorem dL_law_716 : decode cL_law 716 = .ok (.iaload, 1) := by decide +kernel
theorem dL_law_717 : decode cL_law 717 = .ok (.aload_n 0, 1) := by decide +kernel
theorem dL_law_718 : decode cL_law 718 = .ok (.iload_n 3, 1) := by decide +kernel
theorem dL_law_719 : decode cL_law 719 = .ok (.iconst 2, 1) := by decide +kernel
theorem dL_law_720 : decode cL_law 720 = .ok (.iadd, 1) := by decide +kernel
theorem dL_law_721 : decode cL_law 721 = .ok (.iaload, 1) := by decide +kernel
theorem dL_law_722 : decode cL_law 722 = .ok (.invokevirtual 67, 3) := by decide +kernel
theorem dL_law_725 : decode cL_law 725 = .ok (.if_icmp .eq 686, 3) := by decide +kernel
theorem dL_law_728 : decode cL_law 728 = .ok (.iconst 0, 1) := by decide +kernel
theorem dL_law_729 : decode cL_law 729 = .ok (.ireturn, 1) := by decide +kernel
theorem dL_law_730 : decode cL_law 730 = .ok (.aload_n 1, 1) := by decide +kernel
theorem dL_law_731 : decode cL_law 731 = .ok (.aload_n 0, 1) := by decide +kernel
theorem dL_law_732 : decode cL_law 732 = .ok (.iload_n 3, 1) := by decide +kernel
theorem dL_law_733 : decode cL_law 733 = .ok (.iconst 1, 1) := by decide +kernel
theorem dL_law_734 : decode cL_law 734 = .ok (.iadd, 1) := by decide +kernel
theorem dL_law_735 : decode cL_law 735 = .ok (.iaload, 1) := by decide +kernel
theorem dL_law_736 : decode cL_law 736 = .ok (.aload_n 0, 1) := by decide +kernel
theorem dL_law_737 : decode cL_law 737 = .ok (.iload_n 3, 1) := by decide +kernel
theorem dL_law_738 : decode cL_law 738 = .ok (.iconst 2, 1) := by decide +kernel
theorem dL_law_739 : decode cL_law 739 = .ok (.iadd, 1) := by decide +kernel
theorem dL_law_740 : decode cL_law 740 = .ok (.iaload, 1) := by decide +kernel
theorem dL_law_741 : decode cL_law 741 = .ok (.aload_n 0, 1) := by decide +kernel
theorem dL_law_742 : decode cL_law 742 = .ok (.iload_n 3, 1) := by decide +kernel
theorem dL_law_743 : decode cL_law 743 = .ok (.iconst 3, 1) := by decide +kernel
theorem dL_law_744 : decode cL_law 744 = .ok (.iadd, 1) := by decide +kernel
theorem dL_law_745 : decode cL_law 745 = .ok (.iaload, 1) := by decide +kernel
theorem dL_law_746 : decode cL_law 746 = .ok (.aload_n 0, 1) := by decide +kernel
theorem dL_law_747 : decode cL_law 747 = .ok (.iload_n 3, 1) := by decide +kernel
theorem dL_law_748 : decode cL_law 748 = .ok (.iconst 4, 1) := by decide +kernel
theorem dL_law_749 : decode cL_law 749 = .ok (.iadd, 1) := by decide +kernel
theorem dL_law_750 : decode cL_law 750 = .ok (.iaload, 1) := by decide +kernel
theorem dL_law_751 : decode cL_law 751 = .ok (.aload_n 0, 1) := by decide +kernel
theorem dL_law_752 : decode cL_law 752 = .ok (.iload_n 3, 1) := by decide +kernel
theorem dL_law_753 : decode cL_law 753 = .ok (.iconst 5, 1) := by decide +kernel
theorem dL_law_754 : decode cL_law 754 = .ok (.iadd, 1) := by decide +kernel
theorem dL_law_755 : decode cL_law 755 = .ok (.iaload, 1) := by decide +kernel
theorem dL_law_756 : decode cL_law 756 = .ok (.invokevirtual 68, 3) := by decide +kernel
theorem dL_law_759 : decode cL_law 759 = .ok (.aload_n 2, 1) := by decide +kernel
theorem dL_law_760 : decode cL_law 760 = .ok (.aload_n 0, 1) := by decide +kernel
theorem dL_law_761 : decode cL_law 761 = .ok (.iload_n 3, 1) := by decide +kernel
theorem dL_law_762 : decode cL_law 762 = .ok (.iconst 1, 1) := by decide +kernel
theorem dL_law_763 : decode cL_law 763 = .ok (.iadd, 1) := by decide +kernel
theorem dL_law_764 : decode cL_law 764 = .ok (.iaload, 1) := by decide +kernel
theorem dL_law_765 : decode cL_law 765 = .ok (.aload_n 0, 1) := by decide +kernel
theorem dL_law_766 : decode cL_law 766 = .ok (.iload_n 3, 1) := by decide +kernel
theorem dL_law_767 : decode cL_law 767 = .ok (.iconst 2, 1) := by decide +kernel
theorem dL_law_768 : decode cL_law 768 = .ok (.iadd, 1) := by decide +kernel
theorem dL_law_769 : decode cL_law 769 = .ok (.iaload, 1) := by decide +kernel
theorem dL_law_770 : decode cL_law 770 = .ok (.aload_n 0, 1) := by decide +kernel
theorem dL_law_771 : decode cL_law 771 = .ok (.iload_n 3, 1) := by decide +kernel
theorem dL_law_772 : decode cL_law 772 = .ok (.iconst 3, 1) := by decide +kernel
theorem dL_law_773 : decode cL_law 773 = .ok (.iadd, 1) := by decide +kernel
theorem dL_law_774 : decode cL_law 774 = .ok (.iaload, 1) := by decide +kernel
theorem dL_law_775 : decode cL_law 775 = .ok (.aload_n 0, 1) := by decide +kernel
theorem dL_law_776 : decode cL_law 776 = .ok (.iload_n 3, 1) := by decide +kernel
theorem dL_law_777 : decode cL_law 777 = .ok (.iconst 4, 1) := by decide +kernel
theorem dL_law_778 : decode cL_law 778 = .ok (.iadd, 1) := by decide +kernel
theorem dL_law_779 : decode cL_law 779 = .ok (.iaload, 1) := by decide +kernel
theorem dL_law_780 : decode cL_law 780 = .ok (.aload_n 0, 1) := by decide +kernel
theorem dL_law_781 : decode cL_law 781 = .ok (.iload_n 3, 1) := by decide +kernel
theorem dL_law_782 : decode cL_law 782 = .ok (.iconst 5, 1) := by decide +kernel
theorem dL_law_783 : decode cL_law 783 = .ok (.iadd, 1) := by decide +kernel
theorem dL_law_784 : decode cL_law 784 = .ok (.iaload, 1) := by decide +kernel
theorem dL_law_785 : decode cL_law 785 = .ok (.invokevirtual 71, 3) := by decide +kernel
theorem dL_law_788 : decode cL_law 788 = .ok (.if_icmp .eq 623, 3) := by decide +kernel
theorem dL_law_791 : decode cL_law 791 = .ok (.iconst 0, 1) := by decide +kernel
theorem dL_law_792 : decode cL_law 792 = .ok (.ireturn, 1) := by decide +kernel
theorem dL_law_793 : decode cL_law 793 = .ok (.aload_n 1, 1) := by decide +kernel
theorem dL_law_794 : decode cL_law 794 = .ok (.aload_n 0, 1) := by decide +kernel
theorem dL_law_795 : decode cL_law 795 = .ok (.iload_n 3, 1) := by decide +kernel
theorem dL_law_796 : decode cL_law 796 = .ok (.iconst 1, 1) := by decide +kernel
theorem dL_law_797 : decode cL_law 797 = .ok (.iadd, 1) := by decide +kernel
theorem dL_law_798 : decode cL_law 798 = .ok (.iaload, 1) := by decide +kernel
theorem dL_law_799 : decode cL_law 799 = .ok (.aload_n 0, 1) := by decide +kernel
theorem dL_law_800 : decode cL_law 800 = .ok (.iload_n 3, 1) := by decide +kernel
theorem dL_law_801 : decode cL_law 801 = .ok (.iconst 2, 1) := by decide +kernel
theorem dL_law_802 : decode cL_law 802 = .ok (.iadd, 1) := by decide +kernel
theorem dL_law_803 : decode cL_law 803 = .ok (.iaload, 1) := by decide +kernel
theorem dL_law_804 : decode cL_law 804 = .ok (.aload_n 0, 1) := by decide +kernel
theorem dL_law_805 : decode cL_law 805 = .ok (.iload_n 3, 1) := by decide +kernel
theorem dL_law_806 : decode cL_law 806 = .ok (.iconst 3, 1) := by decide +kernel
theorem dL_law_807 : decode cL_law 807 = .ok (.iadd, 1) := by decide +kernel
theorem dL_law_808 : decode cL_law 808 = .ok (.iaload, 1) := by decide +kernel
theorem dL_law_809 : decode cL_law 809 = .ok (.aload_n 0, 1) := by decide +kernel
theorem dL_law_810 : decode cL_law 810 = .ok (.iload_n 3, 1) := by decide +kernel
theorem dL_law_811 : decode cL_law 811 = .ok (.iconst 4, 1) := by decide +kernel
theorem dL_law_812 : decode cL_law 812 = .ok (.iadd, 1) := by decide +kernel
theorem dL_law_813 : decode cL_law 813 = .ok (.iaload, 1) := by decide +kernel
theorem dL_law_814 : decode cL_law 814 = .ok (.invokevirtual 72, 3) := by decide +kernel
theorem dL_law_817 : decode cL_law 817 = .ok (.aload_n 2, 1) := by decide +kernel
theorem dL_law_818 : decode cL_law 818 = .ok (.aload_n 0, 1) := by decide +kernel
theorem dL_law_819 : decode cL_law 819 = .ok (.iload_n 3, 1) := by decide +kernel
theorem dL_law_820 : decode cL_law 820 = .ok (.iconst 1, 1) := by decide +kernel
theorem dL_law_821 : decode cL_law 821 = .ok (.iadd, 1) := by decide +kernel
theorem dL_law_822 : decode cL_law 822 = .ok (.iaload, 1) := by decide +kernel
theorem dL_law_823 : decode cL_law 823 = .ok (.aload_n 0, 1) := by decide +kernel
theorem dL_law_824 : decode cL_law 824 = .ok (.iload_n 3, 1) := by decide +kernel
theorem dL_law_825 : decode cL_law 825 = .ok (.iconst 2, 1) := by decide +kernel
theorem dL_law_826 : decode cL_law 826 = .ok (.iadd, 1) := by decide +kernel
theorem dL_law_827 : decode cL_law 827 = .ok (.iaload, 1) := by decide +kernel
theorem dL_law_828 : decode cL_law 828 = .ok (.aload_n 0, 1) := by decide +kernel
theorem dL_law_829 : decode cL_law 829 = .ok (.iload_n 3, 1) := by decide +kernel
theorem dL_law_830 : decode cL_law 830 = .ok (.iconst 3, 1) := by decide +kernel
theorem dL_law_831 : decode cL_law 831 = .ok (.iadd, 1) := by decide +kernel
theorem dL_law_832 : decode cL_law 832 = .ok (.iaload, 1) := by decide +kernel
theorem dL_law_833 : decode cL_law 833 = .ok (.aload_n 0, 1) := by decide +kernel
theorem dL_law_834 : decode cL_law 834 = .ok (.iload_n 3, 1) := by decide +kernel
theorem dL_law_835 : decode cL_law 835 = .ok (.iconst 4, 1) := by decide +kernel
theorem dL_law_836 : decode cL_law 836 = .ok (.iadd, 1) := by decide +kernel
theorem dL_law_837 : decode cL_law 837 = .ok (.iaload, 1) := by decide +kernel
theorem dL_law_838 : decode cL_law 838 = .ok (.invokevirtual 75, 3) := by decide +kernel
theorem dL_law_841 : decode cL_law 841 = .ok (.if_icmp .eq 570, 3) := by decide +kernel
theorem dL_law_844 : decode cL_law 844 = .ok (.iconst 0, 1) := by decide +kernel
theorem dL_law_845 : decode cL_law 845 = .ok (.ireturn, 1) := by decide +kernel
theorem dL_law_846 : decode cL_law 846 = .ok (.aload_n 1, 1) := by decide +kernel
theorem dL_law_847 : decode cL_law 847 = .ok (.invokevirtual 76, 3) := by decide +kernel
theorem dL_law_850 : decode cL_law 850 = .ok (.aload_n 2, 1) := by decide +kernel
theorem dL_law_851 : decode cL_law 851 = .ok (.invokevirtual 80, 3) := by decide +kernel
theorem dL_law_854 : decode cL_law 854 = .ok (.if_icmp .eq 557, 3) := by decide +kernel
theorem dL_law_857 : decode cL_law 857 = .ok (.iconst 0, 1) := by decide +kernel
theorem dL_law_858 : decode cL_law 858 = .ok (.ireturn, 1) := by decide +kernel
theorem dL_law_859 : decode cL_law 859 = .ok (.aload_n 1, 1) := by decide +kernel
theorem dL_law_860 : decode cL_law 860 = .ok (.invokevirtual 81, 3) := by decide +kernel
theorem dL_law_863 : decode cL_law 863 = .ok (.aload_n 2, 1) := by decide +kernel
theorem dL_law_864 : decode cL_law 864 = .ok (.invokevirtual 84, 3) := by decide +kernel
theorem dL_law_867 : decode cL_law 867 = .ok (.if_icmp .eq 544, 3) := by decide +kernel
theorem dL_law_870 : decode cL_law 870 = .ok (.iconst 0, 1) := by decide +kernel
theorem dL_law_871 : decode cL_law 871 = .ok (.ireturn, 1) := by decide +kernel
theorem dL_law_872 : decode cL_law 872 = .ok (.aload_n 1, 1) := by decide +kernel
theorem dL_law_873 : decode cL_law 873 = .ok (.aload_n 0, 1) := by decide +kernel
theorem dL_law_874 : decode cL_law 874 = .ok (.iload_n 3, 1) := by decide +kernel
theorem dL_law_875 : decode cL_law 875 = .ok (.iconst 1, 1) := by decide +kernel
theorem dL_law_876 : decode cL_law 876 = .ok (.iadd, 1) := by decide +kernel
theorem dL_law_877 : decode cL_law 877 = .ok (.iaload, 1) := by decide +kernel
theorem dL_law_878 : decode cL_law 878 = .ok (.invokevirtual 85, 3) := by decide +kernel
theorem dL_law_881 : decode cL_law 881 = .ok (.aload_n 2, 1) := by decide +kernel
theorem dL_law_882 : decode cL_law 882 = .ok (.aload_n 0, 1) := by decide +kernel
theorem dL_law_883 : decode cL_law 883 = .ok (.iload_n 3, 1) := by decide +kernel
theorem dL_law_884 : decode cL_law 884 = .ok (.iconst 1, 1) := by decide +kernel
theorem dL_law_885 : decode cL_law 885 = .ok (.iadd, 1) := by decide +kernel
theorem dL_law_886 : decode cL_law 886 = .ok (.iaload, 1) := by decide +kernel
theorem dL_law_887 : decode cL_law 887 = .ok (.invokevirtual 88, 3) := by decide +kernel
theorem dL_law_890 : decode cL_law 890 = .ok (.if_icmp .eq 521, 3) := by decide +kernel
theorem dL_law_893 : decode cL_law 893 = .ok (.iconst 0, 1) := by decide +kernel
theorem dL_law_894 : decode cL_law 894 = .ok (.ireturn, 1) := by decide +kernel
theorem dL_law_895 : decode cL_law 895 = .ok (.aload_n 1, 1) := by decide +kernel
theorem dL_law_896 : decode cL_law 896 = .ok (.aload_n 0, 1) := by decide +kernel
theorem dL_law_897 : decode cL_law 897 = .ok (.iload_n 3, 1) := by decide +kernel
theorem dL_law_898 : decode cL_law 898 = .ok (.iconst 1, 1) := by decide +kernel
theorem dL_law_899 : decode cL_law 899 = .ok (.iadd, 1) := by decide +kernel
theorem dL_law_900 : decode cL_law 900 = .ok (.iaload, 1) := by decide +kernel
theorem dL_law_901 : decode cL_law 901 = .ok (.aload_n 0, 1) := by decide +kernel
theorem dL_law_902 : decode cL_law 902 = .ok (.iload_n 3, 1) := by decide +kernel
theorem dL_law_903 : decode cL_law 903 = .ok (.iconst 2, 1) := by decide +kernel
theorem dL_law_904 : decode cL_law 904 = .ok (.iadd, 1) := by decide +kernel
theorem dL_law_905 : decode cL_law 905 = .ok (.iaload, 1) := by decide +kernel
theorem dL_law_906 : decode cL_law 906 = .ok (.aload_n 0, 1) := by decide +kernel
theorem dL_law_907 : decode cL_law 907 = .ok (.iload_n 3, 1) := by decide +kernel
theorem dL_law_908 : decode cL_law 908 = .ok (.iconst 3, 1) := by decide +kernel
theorem dL_law_909 : decode cL_law 909 = .ok (.iadd, 1) := by decide +kernel
theorem dL_law_910 : decode cL_law 910 = .ok (.iaload, 1) := by decide +kernel
theorem dL_law_911 : decode cL_law 911 = .ok (.invokevirtual 89, 3) := by decide +kernel
theorem dL_law_914 : decode cL_law 914 = .ok (.aload_n 2, 1) := by decide +kernel
theorem dL_law_915 : decode cL_law 915 = .ok (.aload_n 0, 1) := by decide +kernel
theorem dL_law_916 : decode cL_law 916 = .ok (.iload_n 3, 1) := by decide +kernel
theorem dL_law_917 : decode cL_law 917 = .ok (.iconst 1, 1) := by decide +kernel
theorem dL_law_918 : decode cL_law 918 = .ok (.iadd, 1) := by decide +kernel
theorem dL_law_919 : decode cL_law 919 = .ok (.iaload, 1) := by decide +kernel
theorem dL_law_920 : decode cL_law 920 = .ok (.aload_n 0, 1) := by decide +kernel
theorem dL_law_921 : decode cL_law 921 = .ok (.iload_n 3, 1) := by decide +kernel
theorem dL_law_922 : decode cL_law 922 = .ok (.iconst 2, 1) := by decide +kernel
theorem dL_law_923 : decode cL_law 923 = .ok (.iadd, 1) := by decide +kernel
theorem dL_law_924 : decode cL_law 924 = .ok (.iaload, 1) := by decide +kernel
theorem dL_law_925 : decode cL_law 925 = .ok (.aload_n 0, 1) := by decide +kernel
theorem dL_law_926 : decode cL_law 926 = .ok (.iload_n 3, 1) := by decide +kernel
theorem dL_law_927 : decode cL_law 927 = .ok (.iconst 3, 1) := by decide +kernel
theorem dL_law_928 : decode cL_law 928 = .ok (.iadd, 1) := by decide +kernel
theorem dL_law_929 : decode cL_law 929 = .ok (.iaload, 1) := by decide +kernel
theorem dL_law_930 : decode cL_law 930 = .ok (.invokevirtual 92, 3) := by decide +kernel
theorem dL_law_933 : decode cL_law 933 = .ok (.if_icmp .eq 478, 3) := by decide +kernel
theorem dL_law_936 : decode cL_law 936 = .ok (.iconst 0, 1) := by decide +kernel
theorem dL_law_937 : decode cL_law 937 = .ok (.ireturn, 1) := by decide +kernel
theorem dL_law_938 : decode cL_law 938 = .ok (.aload_n 1, 1) := by decide +kernel
theorem dL_law_939 : decode cL_law 939 = .ok (.aload_n 0, 1) := by decide +kernel
theorem dL_law_940 : decode cL_law 940 = .ok (.iload_n 3, 1) := by decide +kernel
theorem dL_law_941 : decode cL_law 941 = .ok (.iconst 1, 1) := by decide +kernel
theorem dL_law_942 : decode cL_law 942 = .ok (.iadd, 1) := by decide +kernel
theorem dL_law_943 : decode cL_law 943 = .ok (.iaload, 1) := by decide +kernel
theorem dL_law_944 : decode cL_law 944 = .ok (.aload_n 0, 1) := by decide +kernel
theorem dL_law_945 : decode cL_law 945 = .ok (.iload_n 3, 1) := by decide +kernel
theorem dL_law_946 : decode cL_law 946 = .ok (.iconst 2, 1) := by decide +kernel
theorem dL_law_947 : decode cL_law 947 = .ok (.iadd, 1) := by decide +kernel
theorem dL_law_948 : decode cL_law 948 = .ok (.iaload, 1) := by decide +kernel
theorem dL_law_949 : decode cL_law 949 = .ok (.invokevirtual 93, 3) := by decide +kernel
theorem dL_law_952 : decode cL_law 952 = .ok (.aload_n 2, 1) := by decide +kernel
theorem dL_law_953 : decode cL_law 953 = .ok (.aload_n 0, 1) := by decide +kernel
theorem dL_law_954 : decode cL_law 954 = .ok (.iload_n 3, 1) := by decide +kernel
theorem dL_law_955 : decode cL_law 955 = .ok (.iconst 1, 1) := by decide +kernel
theorem dL_law_956 : decode cL_law 956 = .ok (.iadd, 1) := by decide +kernel
theorem dL_law_957 : decode cL_law 957 = .ok (.iaload, 1) := by decide +kernel
theorem dL_law_958 : decode cL_law 958 = .ok (.aload_n 0, 1) := by decide +kernel
theorem dL_law_959 : decode cL_law 959 = .ok (.iload_n 3, 1) := by decide +kernel
theorem dL_law_960 : decode cL_law 960 = .ok (.iconst 2, 1) := by decide +kernel
theorem dL_law_961 : decode cL_law 961 = .ok (.iadd, 1) := by decide +kernel
theorem dL_law_962 : decode cL_law 962 = .ok (.iaload, 1) := by decide +kernel
theorem dL_law_963 : decode cL_law 963 = .ok (.invokevirtual 96, 3) := by decide +kernel
theorem dL_law_966 : decode cL_law 966 = .ok (.if_icmp .eq 445, 3) := by decide +kernel
theorem dL_law_969 : decode cL_law 969 = .ok (.iconst 0, 1) := by decide +kernel
theorem dL_law_970 : decode cL_law 970 = .ok (.ireturn, 1) := by decide +kernel
theorem dL_law_971 : decode cL_law 971 = .ok (.aload_n 1, 1) := by decide +kernel
theorem dL_law_972 : decode cL_law 972 = .ok (.aload_n 0, 1) := by decide +kernel
theorem dL_law_973 : decode cL_law 973 = .ok (.iload_n 3, 1) := by decide +kernel
theorem dL_law_974 : decode cL_law 974 = .ok (.iconst 1, 1) := by decide +kernel
theorem dL_law_975 : decode cL_law 975 = .ok (.iadd, 1) := by decide +kernel
theorem dL_law_976 : decode cL_law 976 = .ok (.iaload, 1) := by decide +kernel
theorem dL_law_977 : decode cL_law 977 = .ok (.aload_n 0, 1) := by decide +kernel
theorem dL_law_978 : decode cL_law 978 = .ok (.iload_n 3, 1) := by decide +kernel
theorem dL_law_979 : decode cL_law 979 = .ok (.iconst 2, 1) := by decide +kernel
theorem dL_law_980 : decode cL_law 980 = .ok (.iadd, 1) := by decide +kernel
theorem dL_law_981 : decode cL_law 981 = .ok (.iaload, 1) := by decide +kernel
theorem dL_law_982 : decode cL_law 982 = .ok (.aload_n 0, 1) := by decide +kernel
theorem dL_law_983 : decode cL_law 983 = .ok (.iload_n 3, 1) := by decide +kernel
theorem dL_law_984 : decode cL_law 984 = .ok (.iconst 3, 1) := by decide +kernel
theorem dL_law_985 : decode cL_law 985 = .ok (.iadd, 1) := by decide +kernel
theorem dL_law_986 : decode cL_law 986 = .ok (.iaload, 1) := by decide +kernel
theorem dL_law_987 : decode cL_law 987 = .ok (.invokevirtual 97, 3) := by decide +kernel
theorem dL_law_990 : decode cL_law 990 = .ok (.aload_n 2, 1) := by decide +kernel
theorem dL_law_991 : decode cL_law 991 = .ok (.aload_n 0, 1) := by decide +kernel
theorem dL_law_992 : decode cL_law 992 = .ok (.iload_n 3, 1) := by decide +kernel
theorem dL_law_993 : decode cL_law 993 = .ok (.iconst 1, 1) := by decide +kernel
theorem dL_law_994 : decode cL_law 994 = .ok (.iadd, 1) := by decide +kernel
theorem dL_law_995 : decode cL_law 995 = .ok (.iaload, 1) := by decide +kernel
theorem dL_law_996 : decode cL_law 996 = .ok (.aload_n 0, 1) := by decide +kernel
theorem dL_law_997 : decode cL_law 997 = .ok (.iload_n 3, 1) := by decide +kernel
theorem dL_law_998 : decode cL_law 998 = .ok (.iconst 2, 1) := by decide +kernel
theorem dL_law_999 : decode cL_law 999 = .ok (.iadd, 1) := by decide +kernel
theorem dL_law_1000 : decode cL_law 1000 = .ok (.iaload, 1) := by decide +kernel
theorem dL_law_1001 : decode cL_law 1001 = .ok (.aload_n 0, 1) := by decide +kernel
theorem dL_law_1002 : decode cL_law 1002 = .ok (.iload_n 3, 1) := by decide +kernel
theorem dL_law_1003 : decode cL_law 1003 = .ok (.iconst 3, 1) := by decide +kernel
theorem dL_law_1004 : decode cL_law 1004 = .ok (.iadd, 1) := by decide +kernel
theorem dL_law_1005 : decode cL_law 1005 = .ok (.iaload, 1) := by decide +kernel
theorem dL_law_1006 : decode cL_law 1006 = .ok (.invokevirtual 100, 3) := by decide +kernel
theorem dL_law_1009 : decode cL_law 1009 = .ok (.if_icmp .eq 402, 3) := by decide +kernel
theorem dL_law_1012 : decode cL_law 1012 = .ok (.iconst 0, 1) := by decide +kernel
theorem dL_law_1013 : decode cL_law 1013 = .ok (.ireturn, 1) := by decide +kernel
theorem dL_law_1014 : decode cL_law 1014 = .ok (.aload_n 1, 1) := by decide +kernel
theorem dL_law_1015 : decode cL_law 1015 = .ok (.aload_n 0, 1) := by decide +kernel
theorem dL_law_1016 : decode cL_law 1016 = .ok (.iload_n 3, 1) := by decide +kernel
theorem dL_law_1017 : decode cL_law 1017 = .ok (.iconst 1, 1) := by decide +kernel
theorem dL_law_1018 : decode cL_law 1018 = .ok (.iadd, 1) := by decide +kernel
theorem dL_law_1019 : decode cL_law 1019 = .ok (.iaload, 1) := by decide +kernel
theorem dL_law_1020 : decode cL_law 1020 = .ok (.aload_n 0, 1) := by decide +kernel
theorem dL_law_1021 : decode cL_law 1021 = .ok (.iload_n 3, 1) := by decide +kernel
theorem dL_law_1022 : decode cL_law 1022 = .ok (.iconst 2, 1) := by decide +kernel
theorem dL_law_1023 : decode cL_law 1023 = .ok (.iadd, 1) := by decide +kernel
theorem dL_law_1024 : decode cL_law 1024 = .ok (.iaload, 1) := by decide +kernel
theorem dL_law_1025 : decode cL_law 1025 = .ok (.invokevirtual 101, 3) := by decide +kernel
theorem dL_law_1028 : decode cL_law 1028 = .ok (.aload_n 2, 1) := by decide +kernel
theorem dL_law_1029 : decode cL_law 1029 = .ok (.aload_n 0, 1) := by decide +kernel
theorem dL_law_1030 : decode cL_law 1030 = .ok (.iload_n 3, 1) := by decide +kernel
theorem dL_law_1031 : decode cL_law 1031 = .ok (.iconst 1, 1) := by decide +kernel
theorem dL_law_1032 : decode cL_law 1032 = .ok (.iadd, 1) := by decide +kernel
theorem dL_law_1033 : decode cL_law 1033 = .ok (.iaload, 1) := by decide +kernel
theorem dL_law_1034 : decode cL_law 1034 = .ok (.aload_n 0, 1) := by decide +kernel
theorem dL_law_1035 : decode cL_law 1035 = .ok (.iload_n 3, 1) := by decide +kernel
theorem dL_law_1036 : decode cL_law 1036 = .ok (.iconst 2, 1) := by decide +kernel
theorem dL_law_1037 : decode cL_law 1037 = .ok (.iadd, 1) := by decide +kernel
theorem dL_law_1038 : decode cL_law 1038 = .ok (.iaload, 1) := by decide +kernel
theorem dL_law_1039 : decode cL_law 1039 = .ok (.invokevirtual 104, 3) := by decide +kernel
theorem dL_law_1042 : decode cL_law 1042 = .ok (.if_icmp .eq 369, 3) := by decide +kernel
theorem dL_law_1045 : decode cL_law 1045 = .ok (.iconst 0, 1) := by decide +kernel
theorem dL_law_1046 : decode cL_law 1046 = .ok (.ireturn, 1) := by decide +kernel
theorem dL_law_1047 : decode cL_law 1047 = .ok (.aload_n 1, 1) := by decide +kernel
theorem dL_law_1048 : decode cL_law 1048 = .ok (.aload_n 0, 1) := by decide +kernel
theorem dL_law_1049 : decode cL_law 1049 = .ok (.iload_n 3, 1) := by decide +kernel
theorem dL_law_1050 : decode cL_law 1050 = .ok (.iconst 1, 1) := by decide +kernel
theorem dL_law_1051 : decode cL_law 1051 = .ok (.iadd, 1) := by decide +kernel
theorem dL_law_1052 : decode cL_law 1052 = .ok (.iaload, 1) := by decide +kernel
theorem dL_law_1053 : decode cL_law 1053 = .ok (.aload_n 0, 1) := by decide +kernel
theorem dL_law_1054 : decode cL_law 1054 = .ok (.iload_n 3, 1) := by decide +kernel
theorem dL_law_1055 : decode cL_law 1055 = .ok (.iconst 2, 1) := by decide +kernel
theorem dL_law_1056 : decode cL_law 1056 = .ok (.iadd, 1) := by decide +kernel
theorem dL_law_1057 : decode cL_law 1057 = .ok (.iaload, 1) := by decide +kernel
theorem dL_law_1058 : decode cL_law 1058 = .ok (.aload_n 0, 1) := by decide +kernel
theorem dL_law_1059 : decode cL_law 1059 = .ok (.iload_n 3, 1) := by decide +kernel
theorem dL_law_1060 : decode cL_law 1060 = .ok (.iconst 3, 1) := by decide +kernel
theorem dL_law_1061 : decode cL_law 1061 = .ok (.iadd, 1) := by decide +kernel
theorem dL_law_1062 : decode cL_law 1062 = .ok (.iaload, 1) := by decide +kernel
theorem dL_law_1063 : decode cL_law 1063 = .ok (.invokevirtual 105, 3) := by decide +kernel
theorem dL_law_1066 : decode cL_law 1066 = .ok (.aload_n 2, 1) := by decide +kernel
theorem dL_law_1067 : decode cL_law 1067 = .ok (.aload_n 0, 1) := by decide +kernel
theorem dL_law_1068 : decode cL_law 1068 = .ok (.iload_n 3, 1) := by decide +kernel
theorem dL_law_1069 : decode cL_law 1069 = .ok (.iconst 1, 1) := by decide +kernel
theorem dL_law_1070 : decode cL_law 1070 = .ok (.iadd, 1) := by decide +kernel
theorem dL_law_1071 : decode cL_law 1071 = .ok (.iaload, 1) := by decide +kernel
theorem dL_law_1072 : decode cL_law 1072 = .ok (.aload_n 0, 1) := by decide +kernel
theorem dL_law_1073 : decode cL_law 1073 = .ok (.iload_n 3, 1) := by decide +kernel
theorem dL_law_1074 : decode cL_law 1074 = .ok (.iconst 2, 1) := by decide +kernel
theorem dL_law_1075 : decode cL_law 1075 = .ok (.iadd, 1) := by decide +kernel
theorem dL_law_1076 : decode cL_law 1076 = .ok (.iaload, 1) := by decide +kernel
theorem dL_law_1077 : decode cL_law 1077 = .ok (.aload_n 0, 1) := by decide +kernel
theorem dL_law_1078 : decode cL_law 1078 = .ok (.iload_n 3, 1) := by decide +kernel
theorem dL_law_1079 : decode cL_law 1079 = .ok (.iconst 3, 1) := by decide +kernel
theorem dL_law_1080 : decode cL_law 1080 = .ok (.iadd, 1) := by decide +kernel
theorem dL_law_1081 : decode cL_law 1081 = .ok (.iaload, 1) := by decide +kernel
theorem dL_law_1082 : decode cL_law 1082 = .ok (.invokevirtual 108, 3) := by decide +kernel
theorem dL_law_1085 : decode cL_law 1085 = .ok (.if_icmp .eq 326, 3) := by decide +kernel
theorem dL_law_1088 : decode cL_law 1088 = .ok (.iconst 0, 1) := by decide +kernel
theorem dL_law_1089 : decode cL_law 1089 = .ok (.ireturn, 1) := by decide +kernel
theorem dL_law_1090 : decode cL_law 1090 = .ok (.aload_n 1, 1) := by decide +kernel
theorem dL_law_1091 : decode cL_law 1091 = .ok (.aload_n 0, 1) := by decide +kernel
theorem dL_law_1092 : decode cL_law 1092 = .ok (.iload_n 3, 1) := by decide +kernel
theorem dL_law_1093 : decode cL_law 1093 = .ok (.iconst 1, 1) := by decide +kernel
theorem dL_law_1094 : decode cL_law 1094 = .ok (.iadd, 1) := by decide +kernel
theorem dL_law_1095 : decode cL_law 1095 = .ok (.iaload, 1) := by decide +kernel
theorem dL_law_1096 : decode cL_law 1096 = .ok (.aload_n 0, 1) := by decide +kernel
theorem dL_law_1097 : decode cL_law 1097 = .ok (.iload_n 3, 1) := by decide +kernel
theorem dL_law_1098 : decode cL_law 1098 = .ok (.iconst 2, 1) := by decide +kernel
theorem dL_law_1099 : decode cL_law 1099 = .ok (.iadd, 1) := by decide +kernel
theorem dL_law_1100 : decode cL_law 1100 = .ok (.iaload, 1) := by decide +kernel
theorem dL_law_1101 : decode cL_law 1101 = .ok (.invokevirtual 109, 3) := by decide +kernel
theorem dL_law_1104 : decode cL_law 1104 = .ok (.aload_n 2, 1) := by decide +kernel
theorem dL_law_1105 : decode cL_law 1105 = .ok (.aload_n 0, 1) := by decide +kernel
theorem dL_law_1106 : decode cL_law 1106 = .ok (.iload_n 3, 1) := by decide +kernel
theorem dL_law_1107 : decode cL_law 1107 = .ok (.iconst 1, 1) := by decide +kernel
theorem dL_law_1108 : decode cL_law 1108 = .ok (.iadd, 1) := by decide +kernel
theorem dL_law_1109 : decode cL_law 1109 = .ok (.iaload, 1) := by decide +kernel
theorem dL_law_1110 : decode cL_law 1110 = .ok (.aload_n 0, 1) := by decide +kernel
theorem dL_law_1111 : decode cL_law 1111 = .ok (.iload_n 3, 1) := by decide +kernel
theorem dL_law_1112 : decode cL_law 1112 = .ok (.iconst 2, 1) := by decide +kernel
theorem dL_law_1113 : decode cL_law 1113 = .ok (.iadd, 1) := by decide +kernel
theorem dL_law_1114 : decode cL_law 1114 = .ok (.iaload, 1) := by decide +kernel
theorem dL_law_1115 : decode cL_law 1115 = .ok (.invokevirtual 112, 3) := by decide +kernel
theorem dL_law_1118 : decode cL_law 1118 = .ok (.if_icmp .eq 293, 3) := by decide +kernel
theorem dL_law_1121 : decode cL_law 1121 = .ok (.iconst 0, 1) := by decide +kernel
theorem dL_law_1122 : decode cL_law 1122 = .ok (.ireturn, 1) := by decide +kernel
theorem dL_law_1123 : decode cL_law 1123 = .ok (.aload_n 1, 1) := by decide +kernel
theorem dL_law_1124 : decode cL_law 1124 = .ok (.aload_n 0, 1) := by decide +kernel
theorem dL_law_1125 : decode cL_law 1125 = .ok (.iload_n 3, 1) := by decide +kernel
theorem dL_law_1126 : decode cL_law 1126 = .ok (.iconst 1, 1) := by decide +kernel
theorem dL_law_1127 : decode cL_law 1127 = .ok (.iadd, 1) := by decide +kernel
theorem dL_law_1128 : decode cL_law 1128 = .ok (.iaload, 1) := by decide +kernel
theorem dL_law_1129 : decode cL_law 1129 = .ok (.aload_n 0, 1) := by decide +kernel
theorem dL_law_1130 : decode cL_law 1130 = .ok (.iload_n 3, 1) := by decide +kernel
theorem dL_law_1131 : decode cL_law 1131 = .ok (.iconst 2, 1) := by decide +kernel
theorem dL_law_1132 : decode cL_law 1132 = .ok (.iadd, 1) := by decide +kernel
theorem dL_law_1133 : decode cL_law 1133 = .ok (.iaload, 1) := by decide +kernel
theorem dL_law_1134 : decode cL_law 1134 = .ok (.invokevirtual 113, 3) := by decide +kernel
theorem dL_law_1137 : decode cL_law 1137 = .ok (.aload_n 2, 1) := by decide +kernel
theorem dL_law_1138 : decode cL_law 1138 = .ok (.aload_n 0, 1) := by decide +kernel
theorem dL_law_1139 : decode cL_law 1139 = .ok (.iload_n 3, 1) := by decide +kernel
theorem dL_law_1140 : decode cL_law 1140 = .ok (.iconst 1, 1) := by decide +kernel
theorem dL_law_1141 : decode cL_law 1141 = .ok (.iadd, 1) := by decide +kernel
theorem dL_law_1142 : decode cL_law 1142 = .ok (.iaload, 1) := by decide +kernel
theorem dL_law_1143 : decode cL_law 1143 = .ok (.aload_n 0, 1) := by decide +kernel
theorem dL_law_1144 : decode cL_law 1144 = .ok (.iload_n 3, 1) := by decide +kernel
theorem dL_law_1145 : decode cL_law 1145 = .ok (.iconst 2, 1) := by decide +kernel
theorem dL_law_1146 : decode cL_law 1146 = .ok (.iadd, 1) := by decide +kernel
theorem dL_law_1147 : decode cL_law 1147 = .ok (.iaload, 1) := by decide +kernel
theorem dL_law_1148 : decode cL_law 1148 = .ok (.invokevirtual 116, 3) := by decide +kernel
theorem dL_law_1151 : decode cL_law 1151 = .ok (.if_icmp .eq 260, 3) := by decide +kernel
theorem dL_law_1154 : decode cL_law 1154 = .ok (.iconst 0, 1) := by decide +kernel
theorem dL_law_1155 : decode cL_law 1155 = .ok (.ireturn, 1) := by decide +kernel
theorem dL_law_1156 : decode cL_law 1156 = .ok (.aload_n 1, 1) := by decide +kernel
theorem dL_law_1157 : decode cL_law 1157 = .ok (.aload_n 0, 1) := by decide +kernel
theorem dL_law_1158 : decode cL_law 1158 = .ok (.iload_n 3, 1) := by decide +kernel
theorem dL_law_1159 : decode cL_law 1159 = .ok (.iconst 1, 1) := by decide +kernel
theorem dL_law_1160 : decode cL_law 1160 = .ok (.iadd, 1) := by decide +kernel
theorem dL_law_1161 : decode cL_law 1161 = .ok (.iaload, 1) := by decide +kernel
theorem dL_law_1162 : decode cL_law 1162 = .ok (.aload_n 0, 1) := by decide +kernel
theorem dL_law_1163 : decode cL_law 1163 = .ok (.iload_n 3, 1) := by decide +kernel
theorem dL_law_1164 : decode cL_law 1164 = .ok (.iconst 2, 1) := by decide +kernel
theorem dL_law_1165 : decode cL_law 1165 = .ok (.iadd, 1) := by decide +kernel
theorem dL_law_1166 : decode cL_law 1166 = .ok (.iaload, 1) := by decide +kernel
theorem dL_law_1167 : decode cL_law 1167 = .ok (.aload_n 0, 1) := by decide +kernel
theorem dL_law_1168 : decode cL_law 1168 = .ok (.iload_n 3, 1) := by decide +kernel
theorem dL_law_1169 : decode cL_law 1169 = .ok (.iconst 3, 1) := by decide +kernel
theorem dL_law_1170 : decode cL_law 1170 = .ok (.iadd, 1) := by decide +kernel
theorem dL_law_1171 : decode cL_law 1171 = .ok (.iaload, 1) := by decide +kernel
theorem dL_law_1172 : decode cL_law 1172 = .ok (.invokevirtual 117, 3) := by decide +kernel
theorem dL_law_1175 : decode cL_law 1175 = .ok (.aload_n 2, 1) := by decide +kernel
theorem dL_law_1176 : decode cL_law 1176 = .ok (.aload_n 0, 1) := by decide +kernel
theorem dL_law_1177 : decode cL_law 1177 = .ok (.iload_n 3, 1) := by decide +kernel
theorem dL_law_1178 : decode cL_law 1178 = .ok (.iconst 1, 1) := by decide +kernel
theorem dL_law_1179 : decode cL_law 1179 = .ok (.iadd, 1) := by decide +kernel
theorem dL_law_1180 : decode cL_law 1180 = .ok (.iaload, 1) := by decide +kernel
theorem dL_law_1181 : decode cL_law 1181 = .ok (.aload_n 0, 1) := by decide +kernel
theorem dL_law_1182 : decode cL_law 1182 = .ok (.iload_n 3, 1) := by decide +kernel
theorem dL_law_1183 : decode cL_law 1183 = .ok (.iconst 2, 1) := by decide +kernel
theorem dL_law_1184 : decode cL_law 1184 = .ok (.iadd, 1) := by decide +kernel
theorem dL_law_1185 : decode cL_law 1185 = .ok (.iaload, 1) := by decide +kernel
theorem dL_law_1186 : decode cL_law 1186 = .ok (.aload_n 0, 1) := by decide +kernel
theorem dL_law_1187 : decode cL_law 1187 = .ok (.iload_n 3, 1) := by decide +kernel
theorem dL_law_1188 : decode cL_law 1188 = .ok (.iconst 3, 1) := by decide +kernel
theorem dL_law_1189 : decode cL_law 1189 = .ok (.iadd, 1) := by decide +kernel
theorem dL_law_1190 : decode cL_law 1190 = .ok (.iaload, 1) := by decide +kernel
theorem dL_law_1191 : decode cL_law 1191 = .ok (.invokevirtual 120, 3) := by decide +kernel
theorem dL_law_1194 : decode cL_law 1194 = .ok (.if_icmp .eq 217, 3) := by decide +kernel
theorem dL_law_1197 : decode cL_law 1197 = .ok (.iconst 0, 1) := by decide +kernel
theorem dL_law_1198 : decode cL_law 1198 = .ok (.ireturn, 1) := by decide +kernel
theorem dL_law_1199 : decode cL_law 1199 = .ok (.aload_n 1, 1) := by decide +kernel
theorem dL_law_1200 : decode cL_law 1200 = .ok (.aload_n 0, 1) := by decide +kernel
theorem dL_law_1201 : decode cL_law 1201 = .ok (.iload_n 3, 1) := by decide +kernel
theorem dL_law_1202 : decode cL_law 1202 = .ok (.iconst 1, 1) := by decide +kernel
theorem dL_law_1203 : decode cL_law 1203 = .ok (.iadd, 1) := by decide +kernel
theorem dL_law_1204 : decode cL_law 1204 = .ok (.iaload, 1) := by decide +kernel
theorem dL_law_1205 : decode cL_law 1205 = .ok (.invokevirtual 121, 3) := by decide +kernel
theorem dL_law_1208 : decode cL_law 1208 = .ok (.aload_n 2, 1) := by decide +kernel
theorem dL_law_1209 : decode cL_law 1209 = .ok (.aload_n 0, 1) := by decide +kernel
theorem dL_law_1210 : decode cL_law 1210 = .ok (.iload_n 3, 1) := by decide +kernel
theorem dL_law_1211 : decode cL_law 1211 = .ok (.iconst 1, 1) := by decide +kernel
theorem dL_law_1212 : decode cL_law 1212 = .ok (.iadd, 1) := by decide +kernel
theorem dL_law_1213 : decode cL_law 1213 = .ok (.iaload, 1) := by decide +kernel
theorem dL_law_1214 : decode cL_law 1214 = .ok (.invokevirtual 124, 3) := by decide +kernel
theorem dL_law_1217 : decode cL_law 1217 = .ok (.if_icmp .eq 194, 3) := by decide +kernel
theorem dL_law_1220 : decode cL_law 1220 = .ok (.iconst 0, 1) := by decide +kernel
theorem dL_law_1221 : decode cL_law 1221 = .ok (.ireturn, 1) := by decide +kernel
theorem dL_law_1222 : decode cL_law 1222 = .ok (.aload_n 1, 1) := by decide +kernel
theorem dL_law_1223 : decode cL_law 1223 = .ok (.aload_n 0, 1) := by decide +kernel
theorem dL_law_1224 : decode cL_law 1224 = .ok (.iload_n 3, 1) := by decide +kernel
theorem dL_law_1225 : decode cL_law 1225 = .ok (.iconst 1, 1) := by decide +kernel
theorem dL_law_1226 : decode cL_law 1226 = .ok (.iadd, 1) := by decide +kernel
theorem dL_law_1227 : decode cL_law 1227 = .ok (.iaload, 1) := by decide +kernel
theorem dL_law_1228 : decode cL_law 1228 = .ok (.aload_n 0, 1) := by decide +kernel
theorem dL_law_1229 : decode cL_law 1229 = .ok (.iload_n 3, 1) := by decide +kernel
theorem dL_law_1230 : decode cL_law 1230 = .ok (.iconst 2, 1) := by decide +kernel
theorem dL_law_1231 : decode cL_law 1231 = .ok (.iadd, 1) := by decide +kernel
theorem dL_law_1232 : decode cL_law 1232 = .ok (.iaload, 1) := by decide +kernel
theorem dL_law_1233 : decode cL_law 1233 = .ok (.aload_n 0, 1) := by decide +kernel
theorem dL_law_1234 : decode cL_law 1234 = .ok (.iload_n 3, 1) := by decide +kernel
theorem dL_law_1235 : decode cL_law 1235 = .ok (.iconst 3, 1) := by decide +kernel
theorem dL_law_1236 : decode cL_law 1236 = .ok (.iadd, 1) := by decide +kernel
theorem dL_law_1237 : decode cL_law 1237 = .ok (.iaload, 1) := by decide +kernel
theorem dL_law_1238 : decode cL_law 1238 = .ok (.aload_n 0, 1) := by decide +kernel
theorem dL_law_1239 : decode cL_law 1239 = .ok (.iload_n 3, 1) := by decide +kernel
theorem dL_law_1240 : decode cL_law 1240 = .ok (.iconst 4, 1) := by decide +kernel
theorem dL_law_1241 : decode cL_law 1241 = .ok (.iadd, 1) := by decide +kernel
theorem dL_law_1242 : decode cL_law 1242 = .ok (.iaload, 1) := by decide +kernel
theorem dL_law_1243 : decode cL_law 1243 = .ok (.invokevirtual 125, 3) := by decide +kernel
theorem dL_law_1246 : decode cL_law 1246 = .ok (.aload_n 2, 1) := by decide +kernel
theorem dL_law_1247 : decode cL_law 1247 = .ok (.aload_n 0, 1) := by decide +kernel
theorem dL_law_1248 : decode cL_law 1248 = .ok (.iload_n 3, 1) := by decide +kernel
theorem dL_law_1249 : decode cL_law 1249 = .ok (.iconst 1, 1) := by decide +kernel
theorem dL_law_1250 : decode cL_law 1250 = .ok (.iadd, 1) := by decide +kernel
theorem dL_law_1251 : decode cL_law 1251 = .ok (.iaload, 1) := by decide +kernel
theorem dL_law_1252 : decode cL_law 1252 = .ok (.aload_n 0, 1) := by decide +kernel
theorem dL_law_1253 : decode cL_law 1253 = .ok (.iload_n 3, 1) := by decide +kernel
theorem dL_law_1254 : decode cL_law 1254 = .ok (.iconst 2, 1) := by decide +kernel
theorem dL_law_1255 : decode cL_law 1255 = .ok (.iadd, 1) := by decide +kernel
theorem dL_law_1256 : decode cL_law 1256 = .ok (.iaload, 1) := by decide +kernel
theorem dL_law_1257 : decode cL_law 1257 = .ok (.aload_n 0, 1) := by decide +kernel
theorem dL_law_1258 : decode cL_law 1258 = .ok (.iload_n 3, 1) := by decide +kernel
theorem dL_law_1259 : decode cL_law 1259 = .ok (.iconst 3, 1) := by decide +kernel
theorem dL_law_1260 : decode cL_law 1260 = .ok (.iadd, 1) := by decide +kernel
theorem dL_law_1261 : decode cL_law 1261 = .ok (.iaload, 1) := by decide +kernel
theorem dL_law_1262 : decode cL_law 1262 = .ok (.aload_n 0, 1) := by decide +kernel
theorem dL_law_1263 : decode cL_law 1263 = .ok (.iload_n 3, 1) := by decide +kernel
theorem dL_law_1264 : decode cL_law 1264 = .ok (.iconst 4, 1) := by decide +kernel
theorem dL_law_1265 : decode cL_law 1265 = .ok (.iadd, 1) := by decide +kernel
theorem dL_law_1266 : decode cL_law 1266 = .ok (.iaload, 1) := by decide +kernel
theorem dL_law_1267 : decode cL_law 1267 = .ok (.invokevirtual 128, 3) := by decide +kernel
theorem dL_law_1270 : decode cL_law 1270 = .ok (.if_icmp .eq 141, 3) := by decide +kernel
theorem dL_law_1273 : decode cL_law 1273 = .ok (.iconst 0, 1) := by decide +kernel
theorem dL_law_1274 : decode cL_law 1274 = .ok (.ireturn, 1) := by decide +kernel
theorem dL_law_1275 : decode cL_law 1275 = .ok (.aload_n 1, 1) := by decide +kernel
theorem dL_law_1276 : decode cL_law 1276 = .ok (.aload_n 0, 1) := by decide +kernel
theorem dL_law_1277 : decode cL_law 1277 = .ok (.iload_n 3, 1) := by decide +kernel
theorem dL_law_1278 : decode cL_law 1278 = .ok (.iconst 1, 1) := by decide +kernel
theorem dL_law_1279 : decode cL_law 1279 = .ok (.iadd, 1) := by decide +kernel
theorem dL_law_1280 : decode cL_law 1280 = .ok (.iaload, 1) := by decide +kernel
theorem dL_law_1281 : decode cL_law 1281 = .ok (.aload_n 0, 1) := by decide +kernel
theorem dL_law_1282 : decode cL_law 1282 = .ok (.iload_n 3, 1) := by decide +kernel
theorem dL_law_1283 : decode cL_law 1283 = .ok (.iconst 2, 1) := by decide +kernel
theorem dL_law_1284 : decode cL_law 1284 = .ok (.iadd, 1) := by decide +kernel
theorem dL_law_1285 : decode cL_law 1285 = .ok (.iaload, 1) := by decide +kernel
theorem dL_law_1286 : decode cL_law 1286 = .ok (.aload_n 0, 1) := by decide +kernel
theorem dL_law_1287 : decode cL_law 1287 = .ok (.iload_n 3, 1) := by decide +kernel
theorem dL_law_1288 : decode cL_law 1288 = .ok (.iconst 3, 1) := by decide +kernel
theorem dL_law_1289 : decode cL_law 1289 = .ok (.iadd, 1) := by decide +kernel
theorem dL_law_1290 : decode cL_law 1290 = .ok (.iaload, 1) := by decide +kernel
theorem dL_law_1291 : decode cL_law 1291 = .ok (.invokevirtual 129, 3) := by decide +kernel
theorem dL_law_1294 : decode cL_law 1294 = .ok (.aload_n 2, 1) := by decide +kernel
theorem dL_law_1295 : decode cL_law 1295 = .ok (.aload_n 0, 1) := by decide +kernel
theorem dL_law_1296 : decode cL_law 1296 = .ok (.iload_n 3, 1) := by decide +kernel
theorem dL_law_1297 : decode cL_law 1297 = .ok (.iconst 1, 1) := by decide +kernel
theorem dL_law_1298 : decode cL_law 1298 = .ok (.iadd, 1) := by decide +kernel
theorem dL_law_1299 : decode cL_law 1299 = .ok (.iaload, 1) := by decide +kernel
theorem dL_law_1300 : decode cL_law 1300 = .ok (.aload_n 0, 1) := by decide +kernel
theorem dL_law_1301 : decode cL_law 1301 = .ok (.iload_n 3, 1) := by decide +kernel
theorem dL_law_1302 : decode cL_law 1302 = .ok (.iconst 2, 1) := by decide +kernel
theorem dL_law_1303 : decode cL_law 1303 = .ok (.iadd, 1) := by decide +kernel
theorem dL_law_1304 : decode cL_law 1304 = .ok (.iaload, 1) := by decide +kernel
theorem dL_law_1305 : decode cL_law 1305 = .ok (.aload_n 0, 1) := by decide +kernel
theorem dL_law_1306 : decode cL_law 1306 = .ok (.iload_n 3, 1) := by decide +kernel
theorem dL_law_1307 : decode cL_law 1307 = .ok (.iconst 3, 1) := by decide +kernel
theorem dL_law_1308 : decode cL_law 1308 = .ok (.iadd, 1) := by decide +kernel
theorem dL_law_1309 : decode cL_law 1309 = .ok (.iaload, 1) := by decide +kernel
theorem dL_law_1310 : decode cL_law 1310 = .ok (.invokevirtual 132, 3) := by decide +kernel
theorem dL_law_1313 : decode cL_law 1313 = .ok (.if_icmp .eq 98, 3) := by decide +kernel
theorem dL_law_1316 : decode cL_law 1316 = .ok (.iconst 0, 1) := by decide +kernel
theorem dL_law_1317 : decode cL_law 1317 = .ok (.ireturn, 1) := by decide +kernel
theorem dL_law_1318 : decode cL_law 1318 = .ok (.aload_n 1, 1) := by decide +kernel
theorem dL_law_1319 : decode cL_law 1319 = .ok (.aload_n 0, 1) := by decide +kernel
theorem dL_law_1320 : decode cL_law 1320 = .ok (.iload_n 3, 1) := by decide +kernel
theorem dL_law_1321 : decode cL_law 1321 = .ok (.iconst 1, 1) := by decide +kernel
theorem dL_law_1322 : decode cL_law 1322 = .ok (.iadd, 1) := by decide +kernel
theorem dL_law_1323 : decode cL_law 1323 = .ok (.iaload, 1) := by decide +kernel
theorem dL_law_1324 : decode cL_law 1324 = .ok (.invokevirtual 133, 3) := by decide +kernel
theorem dL_law_1327 : decode cL_law 1327 = .ok (.aload_n 2, 1) := by decide +kernel
theorem dL_law_1328 : decode cL_law 1328 = .ok (.aload_n 0, 1) := by decide +kernel
theorem dL_law_1329 : decode cL_law 1329 = .ok (.iload_n 3, 1) := by decide +kernel
theorem dL_law_1330 : decode cL_law 1330 = .ok (.iconst 1, 1) := by decide +kernel
theorem dL_law_1331 : decode cL_law 1331 = .ok (.iadd, 1) := by decide +kernel
theorem dL_law_1332 : decode cL_law 1332 = .ok (.iaload, 1) := by decide +kernel
theorem dL_law_1333 : decode cL_law 1333 = .ok (.invokevirtual 136, 3) := by decide +kernel
theorem dL_law_1336 : decode cL_law 1336 = .ok (.if_icmp .eq 75, 3) := by decide +kernel
theorem dL_law_1339 : decode cL_law 1339 = .ok (.iconst 0, 1) := by decide +kernel
theorem dL_law_1340 : decode cL_law 1340 = .ok (.ireturn, 1) := by decide +kernel
theorem dL_law_1341 : decode cL_law 1341 = .ok (.aload_n 1, 1) := by decide +kernel
theorem dL_law_1342 : decode cL_law 1342 = .ok (.aload_n 0, 1) := by decide +kernel
theorem dL_law_1343 : decode cL_law 1343 = .ok (.iload_n 3, 1) := by decide +kernel
theorem dL_law_1344 : decode cL_law 1344 = .ok (.iconst 1, 1) := by decide +kernel
theorem dL_law_1345 : decode cL_law 1345 = .ok (.iadd, 1) := by decide +kernel
theorem dL_law_1346 : decode cL_law 1346 = .ok (.iaload, 1) := by decide +kernel
theorem dL_law_1347 : decode cL_law 1347 = .ok (.aload_n 0, 1) := by decide +kernel
theorem dL_law_1348 : decode cL_law 1348 = .ok (.iload_n 3, 1) := by decide +kernel
theorem dL_law_1349 : decode cL_law 1349 = .ok (.iconst 2, 1) := by decide +kernel
theorem dL_law_1350 : decode cL_law 1350 = .ok (.iadd, 1) := by decide +kernel
theorem dL_law_1351 : decode cL_law 1351 = .ok (.iaload, 1) := by decide +kernel
theorem dL_law_1352 : decode cL_law 1352 = .ok (.invokevirtual 137, 3) := by decide +kernel
theorem dL_law_1355 : decode cL_law 1355 = .ok (.aload_n 2, 1) := by decide +kernel
theorem dL_law_1356 : decode cL_law 1356 = .ok (.aload_n 0, 1) := by decide +kernel
theorem dL_law_1357 : decode cL_law 1357 = .ok (.iload_n 3, 1) := by decide +kernel
theorem dL_law_1358 : decode cL_law 1358 = .ok (.iconst 1, 1) := by decide +kernel
theorem dL_law_1359 : decode cL_law 1359 = .ok (.iadd, 1) := by decide +kernel
theorem dL_law_1360 : decode cL_law 1360 = .ok (.iaload, 1) := by decide +kernel
theorem dL_law_1361 : decode cL_law 1361 = .ok (.aload_n 0, 1) := by decide +kernel
theorem dL_law_1362 : decode cL_law 1362 = .ok (.iload_n 3, 1) := by decide +kernel
theorem dL_law_1363 : decode cL_law 1363 = .ok (.iconst 2, 1) := by decide +kernel
theorem dL_law_1364 : decode cL_law 1364 = .ok (.iadd, 1) := by decide +kernel
theorem dL_law_1365 : decode cL_law 1365 = .ok (.iaload, 1) := by decide +kernel
theorem dL_law_1366 : decode cL_law 1366 = .ok (.invokevirtual 140, 3) := by decide +kernel
theorem dL_law_1369 : decode cL_law 1369 = .ok (.if_icmp .eq 42, 3) := by decide +kernel
theorem dL_law_1372 : decode cL_law 1372 = .ok (.iconst 0, 1) := by decide +kernel
theorem dL_law_1373 : decode cL_law 1373 = .ok (.ireturn, 1) := by decide +kernel
theorem dL_law_1374 : decode cL_law 1374 = .ok (.aload_n 1, 1) := by decide +kernel
theorem dL_law_1375 : decode cL_law 1375 = .ok (.aload_n 0, 1) := by decide +kernel
theorem dL_law_1376 : decode cL_law 1376 = .ok (.iload_n 3, 1) := by decide +kernel
theorem dL_law_1377 : decode cL_law 1377 = .ok (.iconst 1, 1) := by decide +kernel
theorem dL_law_1378 : decode cL_law 1378 = .ok (.iadd, 1) := by decide +kernel
theorem dL_law_1379 : decode cL_law 1379 = .ok (.iaload, 1) := by decide +kernel
theorem dL_law_1380 : decode cL_law 1380 = .ok (.invokevirtual 141, 3) := by decide +kernel
theorem dL_law_1383 : decode cL_law 1383 = .ok (.aload_n 2, 1) := by decide +kernel
theorem dL_law_1384 : decode cL_law 1384 = .ok (.aload_n 0, 1) := by decide +kernel
theorem dL_law_1385 : decode cL_law 1385 = .ok (.iload_n 3, 1) := by decide +kernel
theorem dL_law_1386 : decode cL_law 1386 = .ok (.iconst 1, 1) := by decide +kernel
theorem dL_law_1387 : decode cL_law 1387 = .ok (.iadd, 1) := by decide +kernel
theorem dL_law_1388 : decode cL_law 1388 = .ok (.iaload, 1) := by decide +kernel
theorem dL_law_1389 : decode cL_law 1389 = .ok (.invokevirtual 144, 3) := by decide +kernel
theorem dL_law_1392 : decode cL_law 1392 = .ok (.if_icmp .eq 19, 3) := by decide +kernel
theorem dL_law_1395 : decode cL_law 1395 = .ok (.iconst 0, 1) := by decide +kernel
theorem dL_law_1396 : decode cL_law 1396 = .ok (.ireturn, 1) := by decide +kernel
theorem dL_law_1397 : decode cL_law 1397 = .ok (.aload_n 1, 1) := by decide +kernel
theorem dL_law_1398 : decode cL_law 1398 = .ok (.invokevirtual 145, 3) := by decide +kernel
theorem dL_law_1401 : decode cL_law 1401 = .ok (.aload_n 2, 1) := by decide +kernel
theorem dL_law_1402 : decode cL_law 1402 = .ok (.invokevirtual 149, 3) := by decide +kernel
theorem dL_law_1405 : decode cL_law 1405 = .ok (.lcmp, 1) := by decide +kernel
theorem dL_law_1406 : decode cL_law 1406 = .ok (.ifCond .eq 5, 3) := by decide +kernel
theorem dL_law_1409 : decode cL_law 1409 = .ok (.iconst 0, 1) := by decide +kernel
theorem dL_law_1410 : decode cL_law 1410 = .ok (.ireturn, 1) := by decide +kernel
theorem dL_law_1411 : decode cL_law 1411 = .ok (.iinc 3 7, 3) := by decide +kernel
theorem dL_law_1414 : decode cL_law 1414 = .ok (.goto (-1396), 3) := by decide +kernel
theorem dL_law_1417 : decode cL_law 1417 = .ok (.iconst 1, 1) := by decide +kernel
theorem dL_law_1418 : decode cL_law 1418 = .ok (.ireturn, 1) := by decide +kernel
