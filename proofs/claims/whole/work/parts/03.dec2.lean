theorem dX11_numbers_27 : decode cX11_numbers 27 = .ok (.aload_n 0, 1) := by decide +kernel
theorem dX11_numbers_28 : decode cX11_numbers 28 = .ok (.getfield 19, 3) := by decide +kernel
theorem dX11_numbers_31 : decode cX11_numbers 31 = .ok (.invokevirtual 98, 3) := by decide +kernel
theorem dX11_numbers_34 : decode cX11_numbers 34 = .ok (.iload_n 2, 1) := by decide +kernel
theorem dX11_numbers_35 : decode cX11_numbers 35 = .ok (.ifCond .ne 11, 3) := by decide +kernel
theorem dX11_numbers_38 : decode cX11_numbers 38 = .ok (.aload_n 0, 1) := by decide +kernel
theorem dX11_numbers_39 : decode cX11_numbers 39 = .ok (.getfield 19, 3) := by decide +kernel
theorem dX11_numbers_42 : decode cX11_numbers 42 = .ok (.getfield 102, 3) := by decide +kernel
theorem dX11_numbers_45 : decode cX11_numbers 45 = .ok (.ireturn, 1) := by decide +kernel
theorem dX11_numbers_46 : decode cX11_numbers 46 = .ok (.aload_n 0, 1) := by decide +kernel
theorem dX11_numbers_47 : decode cX11_numbers 47 = .ok (.getfield 19, 3) := by decide +kernel
theorem dX11_numbers_50 : decode cX11_numbers 50 = .ok (.invokevirtual 103, 3) := by decide +kernel
theorem dX11_numbers_53 : decode cX11_numbers 53 = .ok (.istore_n 3, 1) := by decide +kernel
theorem dX11_numbers_54 : decode cX11_numbers 54 = .ok (.iload_n 2, 1) := by decide +kernel
theorem dX11_numbers_55 : decode cX11_numbers 55 = .ok (.iconst 1, 1) := by decide +kernel
theorem dX11_numbers_56 : decode cX11_numbers 56 = .ok (.if_icmp .ne 7, 3) := by decide +kernel
theorem dX11_numbers_59 : decode cX11_numbers 59 = .ok (.iload_n 3, 1) := by decide +kernel
theorem dX11_numbers_60 : decode cX11_numbers 60 = .ok (.goto 7, 3) := by decide +kernel
theorem dX11_numbers_63 : decode cX11_numbers 63 = .ok (.iload_n 3, 1) := by decide +kernel
theorem dX11_numbers_64 : decode cX11_numbers 64 = .ok (.invokestatic 107, 3) := by decide +kernel
theorem dX11_numbers_67 : decode cX11_numbers 67 = .ok (.ireturn, 1) := by decide +kernel
theorem dX11_fits_0 : decode cX11_fits 0 = .ok (.iload_n 1, 1) := by decide +kernel
theorem dX11_fits_1 : decode cX11_fits 1 = .ok (.iload_n 2, 1) := by decide +kernel
theorem dX11_fits_2 : decode cX11_fits 2 = .ok (.iload_n 3, 1) := by decide +kernel
theorem dX11_fits_3 : decode cX11_fits 3 = .ok (.invokestatic 111, 3) := by decide +kernel
theorem dX11_fits_6 : decode cX11_fits 6 = .ok (.ifCond .ne 6, 3) := by decide +kernel
theorem dX11_fits_9 : decode cX11_fits 9 = .ok (.bipush (-2), 2) := by decide +kernel
theorem dX11_fits_11 : decode cX11_fits 11 = .ok (.ireturn, 1) := by decide +kernel
theorem dX11_fits_12 : decode cX11_fits 12 = .ok (.aload_n 0, 1) := by decide +kernel
theorem dX11_fits_13 : decode cX11_fits 13 = .ok (.getfield 10, 3) := by decide +kernel
theorem dX11_fits_16 : decode cX11_fits 16 = .ok (.iload_n 1, 1) := by decide +kernel
theorem dX11_fits_17 : decode cX11_fits 17 = .ok (.iconst (-1), 1) := by decide +kernel
theorem dX11_fits_18 : decode cX11_fits 18 = .ok (.aload_n 0, 1) := by decide +kernel
theorem dX11_fits_19 : decode cX11_fits 19 = .ok (.getfield 19, 3) := by decide +kernel
theorem dX11_fits_22 : decode cX11_fits 22 = .ok (.invokevirtual 98, 3) := by decide +kernel
theorem dX11_fits_25 : decode cX11_fits 25 = .ok (.aload_n 0, 1) := by decide +kernel
theorem dX11_fits_26 : decode cX11_fits 26 = .ok (.getfield 19, 3) := by decide +kernel
theorem dX11_fits_29 : decode cX11_fits 29 = .ok (.iload_n 2, 1) := by decide +kernel
theorem dX11_fits_30 : decode cX11_fits 30 = .ok (.iload_n 3, 1) := by decide +kernel
theorem dX11_fits_31 : decode cX11_fits 31 = .ok (.invokevirtual 114, 3) := by decide +kernel
theorem dX11_fits_34 : decode cX11_fits 34 = .ok (.ifCond .eq 7, 3) := by decide +kernel
theorem dX11_fits_37 : decode cX11_fits 37 = .ok (.iconst 1, 1) := by decide +kernel
theorem dX11_fits_38 : decode cX11_fits 38 = .ok (.goto 4, 3) := by decide +kernel
theorem dX11_fits_41 : decode cX11_fits 41 = .ok (.iconst 0, 1) := by decide +kernel
theorem dX11_fits_42 : decode cX11_fits 42 = .ok (.ireturn, 1) := by decide +kernel
theorem dX11_most_0 : decode cX11_most 0 = .ok (.iload_n 1, 1) := by decide +kernel
theorem dX11_most_1 : decode cX11_most 1 = .ok (.iconst 1, 1) := by decide +kernel
theorem dX11_most_2 : decode cX11_most 2 = .ok (.sipush 150, 3) := by decide +kernel
theorem dX11_most_5 : decode cX11_most 5 = .ok (.invokestatic 83, 3) := by decide +kernel
theorem dX11_most_8 : decode cX11_most 8 = .ok (.ifCond .ne 6, 3) := by decide +kernel
theorem dX11_most_11 : decode cX11_most 11 = .ok (.bipush (-2), 2) := by decide +kernel
theorem dX11_most_13 : decode cX11_most 13 = .ok (.ireturn, 1) := by decide +kernel
theorem dX11_most_14 : decode cX11_most 14 = .ok (.aload_n 0, 1) := by decide +kernel
theorem dX11_most_15 : decode cX11_most 15 = .ok (.getfield 79, 3) := by decide +kernel
theorem dX11_most_18 : decode cX11_most 18 = .ok (.istore_n 2, 1) := by decide +kernel
theorem dX11_most_19 : decode cX11_most 19 = .ok (.aload_n 0, 1) := by decide +kernel
theorem dX11_most_20 : decode cX11_most 20 = .ok (.iload_n 1, 1) := by decide +kernel
theorem dX11_most_21 : decode cX11_most 21 = .ok (.putfield 79, 3) := by decide +kernel
theorem dX11_most_24 : decode cX11_most 24 = .ok (.iload_n 2, 1) := by decide +kernel
theorem dX11_most_25 : decode cX11_most 25 = .ok (.ireturn, 1) := by decide +kernel
theorem dX11_odds_0 : decode cX11_odds 0 = .ok (.iload_n 1, 1) := by decide +kernel
theorem dX11_odds_1 : decode cX11_odds 1 = .ok (.iload_n 2, 1) := by decide +kernel
theorem dX11_odds_2 : decode cX11_odds 2 = .ok (.iload_n 3, 1) := by decide +kernel
theorem dX11_odds_3 : decode cX11_odds 3 = .ok (.invokestatic 111, 3) := by decide +kernel
theorem dX11_odds_6 : decode cX11_odds 6 = .ok (.ifCond .eq 15, 3) := by decide +kernel
theorem dX11_odds_9 : decode cX11_odds 9 = .ok (.iload 4, 2) := by decide +kernel
theorem dX11_odds_11 : decode cX11_odds 11 = .ok (.iconst 0, 1) := by decide +kernel
theorem dX11_odds_12 : decode cX11_odds 12 = .ok (.sipush 200, 3) := by decide +kernel
theorem dX11_odds_15 : decode cX11_odds 15 = .ok (.invokestatic 83, 3) := by decide +kernel
theorem dX11_odds_18 : decode cX11_odds 18 = .ok (.ifCond .ne 6, 3) := by decide +kernel
theorem dX11_odds_21 : decode cX11_odds 21 = .ok (.bipush (-2), 2) := by decide +kernel
theorem dX11_odds_23 : decode cX11_odds 23 = .ok (.ireturn, 1) := by decide +kernel
theorem dX11_odds_24 : decode cX11_odds 24 = .ok (.aload_n 0, 1) := by decide +kernel
theorem dX11_odds_25 : decode cX11_odds 25 = .ok (.iload_n 1, 1) := by decide +kernel
theorem dX11_odds_26 : decode cX11_odds 26 = .ok (.iconst (-1), 1) := by decide +kernel
theorem dX11_odds_27 : decode cX11_odds 27 = .ok (.iload_n 2, 1) := by decide +kernel
theorem dX11_odds_28 : decode cX11_odds 28 = .ok (.iload_n 3, 1) := by decide +kernel
theorem dX11_odds_29 : decode cX11_odds 29 = .ok (.invokevirtual 118, 3) := by decide +kernel
theorem dX11_odds_32 : decode cX11_odds 32 = .ok (.ifCond .ne 6, 3) := by decide +kernel
theorem dX11_odds_35 : decode cX11_odds 35 = .ok (.bipush (-3), 2) := by decide +kernel
theorem dX11_odds_37 : decode cX11_odds 37 = .ok (.ireturn, 1) := by decide +kernel
theorem dX11_odds_38 : decode cX11_odds 38 = .ok (.aload_n 0, 1) := by decide +kernel
theorem dX11_odds_39 : decode cX11_odds 39 = .ok (.getfield 26, 3) := by decide +kernel
theorem dX11_odds_42 : decode cX11_odds 42 = .ok (.iload 4, 2) := by decide +kernel
theorem dX11_odds_44 : decode cX11_odds 44 = .ok (.iload 4, 2) := by decide +kernel
theorem dX11_odds_46 : decode cX11_odds 46 = .ok (.aload_n 0, 1) := by decide +kernel
theorem dX11_odds_47 : decode cX11_odds 47 = .ok (.getfield 75, 3) := by decide +kernel
theorem dX11_odds_50 : decode cX11_odds 50 = .ok (.invokevirtual 122, 3) := by decide +kernel
theorem dX11_odds_53 : decode cX11_odds 53 = .ok (.iconst 1, 1) := by decide +kernel
theorem dX11_odds_54 : decode cX11_odds 54 = .ok (.ireturn, 1) := by decide +kernel
theorem dX11_atLeast_0 : decode cX11_atLeast 0 = .ok (.iload_n 1, 1) := by decide +kernel
theorem dX11_atLeast_1 : decode cX11_atLeast 1 = .ok (.iload_n 2, 1) := by decide +kernel
theorem dX11_atLeast_2 : decode cX11_atLeast 2 = .ok (.iload_n 3, 1) := by decide +kernel
theorem dX11_atLeast_3 : decode cX11_atLeast 3 = .ok (.invokestatic 111, 3) := by decide +kernel
theorem dX11_atLeast_6 : decode cX11_atLeast 6 = .ok (.ifCond .eq 15, 3) := by decide +kernel
theorem dX11_atLeast_9 : decode cX11_atLeast 9 = .ok (.iload 4, 2) := by decide +kernel
theorem dX11_atLeast_11 : decode cX11_atLeast 11 = .ok (.iconst 0, 1) := by decide +kernel
theorem dX11_atLeast_12 : decode cX11_atLeast 12 = .ok (.sipush 200, 3) := by decide +kernel
theorem dX11_atLeast_15 : decode cX11_atLeast 15 = .ok (.invokestatic 83, 3) := by decide +kernel
theorem dX11_atLeast_18 : decode cX11_atLeast 18 = .ok (.ifCond .ne 6, 3) := by decide +kernel
theorem dX11_atLeast_21 : decode cX11_atLeast 21 = .ok (.bipush (-2), 2) := by decide +kernel
theorem dX11_atLeast_23 : decode cX11_atLeast 23 = .ok (.ireturn, 1) := by decide +kernel
theorem dX11_atLeast_24 : decode cX11_atLeast 24 = .ok (.aload_n 0, 1) := by decide +kernel
theorem dX11_atLeast_25 : decode cX11_atLeast 25 = .ok (.iload_n 1, 1) := by decide +kernel
theorem dX11_atLeast_26 : decode cX11_atLeast 26 = .ok (.iconst (-1), 1) := by decide +kernel
theorem dX11_atLeast_27 : decode cX11_atLeast 27 = .ok (.iload_n 2, 1) := by decide +kernel
theorem dX11_atLeast_28 : decode cX11_atLeast 28 = .ok (.iload_n 3, 1) := by decide +kernel
theorem dX11_atLeast_29 : decode cX11_atLeast 29 = .ok (.invokevirtual 118, 3) := by decide +kernel
theorem dX11_atLeast_32 : decode cX11_atLeast 32 = .ok (.ifCond .ne 6, 3) := by decide +kernel
theorem dX11_atLeast_35 : decode cX11_atLeast 35 = .ok (.bipush (-3), 2) := by decide +kernel
theorem dX11_atLeast_37 : decode cX11_atLeast 37 = .ok (.ireturn, 1) := by decide +kernel
theorem dX11_atLeast_38 : decode cX11_atLeast 38 = .ok (.aload_n 0, 1) := by decide +kernel
theorem dX11_atLeast_39 : decode cX11_atLeast 39 = .ok (.getfield 26, 3) := by decide +kernel
theorem dX11_atLeast_42 : decode cX11_atLeast 42 = .ok (.iload 4, 2) := by decide +kernel
theorem dX11_atLeast_44 : decode cX11_atLeast 44 = .ok (.sipush 200, 3) := by decide +kernel
theorem dX11_atLeast_47 : decode cX11_atLeast 47 = .ok (.aload_n 0, 1) := by decide +kernel
theorem dX11_atLeast_48 : decode cX11_atLeast 48 = .ok (.getfield 75, 3) := by decide +kernel
theorem dX11_atLeast_51 : decode cX11_atLeast 51 = .ok (.invokevirtual 122, 3) := by decide +kernel
theorem dX11_atLeast_54 : decode cX11_atLeast 54 = .ok (.iconst 1, 1) := by decide +kernel
theorem dX11_atLeast_55 : decode cX11_atLeast 55 = .ok (.ireturn, 1) := by decide +kernel
theorem dX11_span_0 : decode cX11_span 0 = .ok (.iload_n 1, 1) := by decide +kernel
theorem dX11_span_1 : decode cX11_span 1 = .ok (.iload_n 2, 1) := by decide +kernel
theorem dX11_span_2 : decode cX11_span 2 = .ok (.iload_n 3, 1) := by decide +kernel
theorem dX11_span_3 : decode cX11_span 3 = .ok (.invokestatic 111, 3) := by decide +kernel
theorem dX11_span_6 : decode cX11_span 6 = .ok (.ifCond .eq 23, 3) := by decide +kernel
theorem dX11_span_9 : decode cX11_span 9 = .ok (.iload 4, 2) := by decide +kernel
theorem dX11_span_11 : decode cX11_span 11 = .ok (.iload 5, 2) := by decide +kernel
theorem dX11_span_13 : decode cX11_span 13 = .ok (.invokestatic 126, 3) := by decide +kernel
theorem dX11_span_16 : decode cX11_span 16 = .ok (.ifCond .eq 13, 3) := by decide +kernel
theorem dX11_span_19 : decode cX11_span 19 = .ok (.iload 6, 2) := by decide +kernel
theorem dX11_span_21 : decode cX11_span 21 = .ok (.iconst 0, 1) := by decide +kernel
theorem dX11_span_22 : decode cX11_span 22 = .ok (.iconst 1, 1) := by decide +kernel
theorem dX11_span_23 : decode cX11_span 23 = .ok (.invokestatic 83, 3) := by decide +kernel
theorem dX11_span_26 : decode cX11_span 26 = .ok (.ifCond .ne 6, 3) := by decide +kernel
theorem dX11_span_29 : decode cX11_span 29 = .ok (.bipush (-2), 2) := by decide +kernel
theorem dX11_span_31 : decode cX11_span 31 = .ok (.ireturn, 1) := by decide +kernel
theorem dX11_span_32 : decode cX11_span 32 = .ok (.aload_n 0, 1) := by decide +kernel
theorem dX11_span_33 : decode cX11_span 33 = .ok (.iload_n 1, 1) := by decide +kernel
theorem dX11_span_34 : decode cX11_span 34 = .ok (.iconst (-1), 1) := by decide +kernel
theorem dX11_span_35 : decode cX11_span 35 = .ok (.iload_n 2, 1) := by decide +kernel
theorem dX11_span_36 : decode cX11_span 36 = .ok (.iload_n 3, 1) := by decide +kernel
theorem dX11_span_37 : decode cX11_span 37 = .ok (.invokevirtual 118, 3) := by decide +kernel
theorem dX11_span_40 : decode cX11_span 40 = .ok (.ifCond .ne 6, 3) := by decide +kernel
theorem dX11_span_43 : decode cX11_span 43 = .ok (.bipush (-3), 2) := by decide +kernel
theorem dX11_span_45 : decode cX11_span 45 = .ok (.ireturn, 1) := by decide +kernel
theorem dX11_span_46 : decode cX11_span 46 = .ok (.iload 6, 2) := by decide +kernel
theorem dX11_span_48 : decode cX11_span 48 = .ok (.ifCond .ne 13, 3) := by decide +kernel
theorem dX11_span_51 : decode cX11_span 51 = .ok (.aload_n 0, 1) := by decide +kernel
theorem dX11_span_52 : decode cX11_span 52 = .ok (.getfield 26, 3) := by decide +kernel
theorem dX11_span_55 : decode cX11_span 55 = .ok (.getfield 129, 3) := by decide +kernel
theorem dX11_span_58 : decode cX11_span 58 = .ok (.goto 14, 3) := by decide +kernel
theorem dX11_span_61 : decode cX11_span 61 = .ok (.aload_n 0, 1) := by decide +kernel
theorem dX11_span_62 : decode cX11_span 62 = .ok (.getfield 26, 3) := by decide +kernel
theorem dX11_span_65 : decode cX11_span 65 = .ok (.iload 4, 2) := by decide +kernel
theorem dX11_span_67 : decode cX11_span 67 = .ok (.iload 5, 2) := by decide +kernel
theorem dX11_span_69 : decode cX11_span 69 = .ok (.invokevirtual 132, 3) := by decide +kernel
theorem dX11_span_72 : decode cX11_span 72 = .ok (.ireturn, 1) := by decide +kernel
theorem dX11_told_0 : decode cX11_told 0 = .ok (.iload_n 1, 1) := by decide +kernel
theorem dX11_told_1 : decode cX11_told 1 = .ok (.iload_n 2, 1) := by decide +kernel
theorem dX11_told_2 : decode cX11_told 2 = .ok (.iload_n 3, 1) := by decide +kernel
theorem dX11_told_3 : decode cX11_told 3 = .ok (.invokestatic 111, 3) := by decide +kernel
theorem dX11_told_6 : decode cX11_told 6 = .ok (.ifCond .eq 13, 3) := by decide +kernel
theorem dX11_told_9 : decode cX11_told 9 = .ok (.iload 4, 2) := by decide +kernel
theorem dX11_told_11 : decode cX11_told 11 = .ok (.iconst 0, 1) := by decide +kernel
theorem dX11_told_12 : decode cX11_told 12 = .ok (.iconst 1, 1) := by decide +kernel
theorem dX11_told_13 : decode cX11_told 13 = .ok (.invokestatic 83, 3) := by decide +kernel
theorem dX11_told_16 : decode cX11_told 16 = .ok (.ifCond .ne 6, 3) := by decide +kernel
theorem dX11_told_19 : decode cX11_told 19 = .ok (.bipush (-2), 2) := by decide +kernel
theorem dX11_told_21 : decode cX11_told 21 = .ok (.ireturn, 1) := by decide +kernel
theorem dX11_told_22 : decode cX11_told 22 = .ok (.aload_n 0, 1) := by decide +kernel
theorem dX11_told_23 : decode cX11_told 23 = .ok (.iload_n 1, 1) := by decide +kernel
theorem dX11_told_24 : decode cX11_told 24 = .ok (.iconst (-1), 1) := by decide +kernel
theorem dX11_told_25 : decode cX11_told 25 = .ok (.iload_n 2, 1) := by decide +kernel
theorem dX11_told_26 : decode cX11_told 26 = .ok (.iload_n 3, 1) := by decide +kernel
theorem dX11_told_27 : decode cX11_told 27 = .ok (.invokevirtual 118, 3) := by decide +kernel
theorem dX11_told_30 : decode cX11_told 30 = .ok (.ifCond .ne 6, 3) := by decide +kernel
theorem dX11_told_33 : decode cX11_told 33 = .ok (.bipush (-3), 2) := by decide +kernel
theorem dX11_told_35 : decode cX11_told 35 = .ok (.ireturn, 1) := by decide +kernel
theorem dX11_told_36 : decode cX11_told 36 = .ok (.iload 4, 2) := by decide +kernel
theorem dX11_told_38 : decode cX11_told 38 = .ok (.ifCond .ne 13, 3) := by decide +kernel
theorem dX11_told_41 : decode cX11_told 41 = .ok (.aload_n 0, 1) := by decide +kernel
theorem dX11_told_42 : decode cX11_told 42 = .ok (.getfield 26, 3) := by decide +kernel
theorem dX11_told_45 : decode cX11_told 45 = .ok (.getfield 129, 3) := by decide +kernel
theorem dX11_told_48 : decode cX11_told 48 = .ok (.goto 12, 3) := by decide +kernel
theorem dX11_told_51 : decode cX11_told 51 = .ok (.aload_n 0, 1) := by decide +kernel
theorem dX11_told_52 : decode cX11_told 52 = .ok (.getfield 19, 3) := by decide +kernel
theorem dX11_told_55 : decode cX11_told 55 = .ok (.iload_n 2, 1) := by decide +kernel
theorem dX11_told_56 : decode cX11_told 56 = .ok (.iload_n 3, 1) := by decide +kernel
theorem dX11_told_57 : decode cX11_told 57 = .ok (.invokevirtual 136, 3) := by decide +kernel
theorem dX11_told_60 : decode cX11_told 60 = .ok (.ireturn, 1) := by decide +kernel
theorem dX11_far_0 : decode cX11_far 0 = .ok (.iload_n 1, 1) := by decide +kernel
theorem dX11_far_1 : decode cX11_far 1 = .ok (.iconst 0, 1) := by decide +kernel
theorem dX11_far_2 : decode cX11_far 2 = .ok (.aload_n 0, 1) := by decide +kernel
theorem dX11_far_3 : decode cX11_far 3 = .ok (.getfield 10, 3) := by decide +kernel
theorem dX11_far_6 : decode cX11_far 6 = .ok (.getfield 91, 3) := by decide +kernel
theorem dX11_far_9 : decode cX11_far 9 = .ok (.iconst 1, 1) := by decide +kernel
theorem dX11_far_10 : decode cX11_far 10 = .ok (.isub, 1) := by decide +kernel
theorem dX11_far_11 : decode cX11_far 11 = .ok (.invokestatic 83, 3) := by decide +kernel
theorem dX11_far_14 : decode cX11_far 14 = .ok (.ifCond .eq 12, 3) := by decide +kernel
theorem dX11_far_17 : decode cX11_far 17 = .ok (.iconst 0, 1) := by decide +kernel
theorem dX11_far_18 : decode cX11_far 18 = .ok (.iload_n 2, 1) := by decide +kernel
theorem dX11_far_19 : decode cX11_far 19 = .ok (.iload_n 3, 1) := by decide +kernel
theorem dX11_far_20 : decode cX11_far 20 = .ok (.invokestatic 111, 3) := by decide +kernel
theorem dX11_far_23 : decode cX11_far 23 = .ok (.ifCond .ne 6, 3) := by decide +kernel
theorem dX11_far_26 : decode cX11_far 26 = .ok (.bipush (-2), 2) := by decide +kernel
theorem dX11_far_28 : decode cX11_far 28 = .ok (.ireturn, 1) := by decide +kernel
theorem dX11_far_29 : decode cX11_far 29 = .ok (.aload_n 0, 1) := by decide +kernel
theorem dX11_far_30 : decode cX11_far 30 = .ok (.getfield 10, 3) := by decide +kernel
theorem dX11_far_33 : decode cX11_far 33 = .ok (.getfield 139, 3) := by decide +kernel
theorem dX11_far_36 : decode cX11_far 36 = .ok (.iload_n 1, 1) := by decide +kernel
theorem dX11_far_37 : decode cX11_far 37 = .ok (.iaload, 1) := by decide +kernel
theorem dX11_far_38 : decode cX11_far 38 = .ok (.istore 4, 2) := by decide +kernel
theorem dX11_far_40 : decode cX11_far 40 = .ok (.aload_n 0, 1) := by decide +kernel
theorem dX11_far_41 : decode cX11_far 41 = .ok (.getfield 10, 3) := by decide +kernel
theorem dX11_far_44 : decode cX11_far 44 = .ok (.iload 4, 2) := by decide +kernel
theorem dX11_far_46 : decode cX11_far 46 = .ok (.iconst (-1), 1) := by decide +kernel
theorem dX11_far_47 : decode cX11_far 47 = .ok (.aload_n 0, 1) := by decide +kernel
theorem dX11_far_48 : decode cX11_far 48 = .ok (.getfield 19, 3) := by decide +kernel
theorem dX11_far_51 : decode cX11_far 51 = .ok (.invokevirtual 98, 3) := by decide +kernel
theorem dX11_far_54 : decode cX11_far 54 = .ok (.aload_n 0, 1) := by decide +kernel
theorem dX11_far_55 : decode cX11_far 55 = .ok (.getfield 10, 3) := by decide +kernel
theorem dX11_far_58 : decode cX11_far 58 = .ok (.getfield 94, 3) := by decide +kernel
theorem dX11_far_61 : decode cX11_far 61 = .ok (.iload_n 1, 1) := by decide +kernel
theorem dX11_far_62 : decode cX11_far 62 = .ok (.baload, 1) := by decide +kernel
theorem dX11_far_63 : decode cX11_far 63 = .ok (.ifCond .ne 15, 3) := by decide +kernel
theorem dX11_far_66 : decode cX11_far 66 = .ok (.aload_n 0, 1) := by decide +kernel
theorem dX11_far_67 : decode cX11_far 67 = .ok (.getfield 19, 3) := by decide +kernel
theorem dX11_far_70 : decode cX11_far 70 = .ok (.iload_n 2, 1) := by decide +kernel
theorem dX11_far_71 : decode cX11_far 71 = .ok (.iload_n 3, 1) := by decide +kernel
theorem dX11_far_72 : decode cX11_far 72 = .ok (.invokevirtual 114, 3) := by decide +kernel
theorem dX11_far_75 : decode cX11_far 75 = .ok (.ifCond .ne 6, 3) := by decide +kernel
theorem dX11_far_78 : decode cX11_far 78 = .ok (.bipush (-3), 2) := by decide +kernel
theorem dX11_far_80 : decode cX11_far 80 = .ok (.ireturn, 1) := by decide +kernel
theorem dX11_far_81 : decode cX11_far 81 = .ok (.aload_n 0, 1) := by decide +kernel
theorem dX11_far_82 : decode cX11_far 82 = .ok (.iload 4, 2) := by decide +kernel
theorem dX11_far_84 : decode cX11_far 84 = .ok (.iload_n 1, 1) := by decide +kernel
theorem dX11_far_85 : decode cX11_far 85 = .ok (.iload_n 2, 1) := by decide +kernel
theorem dX11_far_86 : decode cX11_far 86 = .ok (.iload_n 3, 1) := by decide +kernel
theorem dX11_far_87 : decode cX11_far 87 = .ok (.invokevirtual 118, 3) := by decide +kernel
theorem dX11_far_90 : decode cX11_far 90 = .ok (.ifCond .ne 6, 3) := by decide +kernel
theorem dX11_far_93 : decode cX11_far 93 = .ok (.bipush (-3), 2) := by decide +kernel
theorem dX11_far_95 : decode cX11_far 95 = .ok (.ireturn, 1) := by decide +kernel
theorem dX11_far_96 : decode cX11_far 96 = .ok (.aload_n 0, 1) := by decide +kernel
theorem dX11_far_97 : decode cX11_far 97 = .ok (.getfield 19, 3) := by decide +kernel
theorem dX11_far_100 : decode cX11_far 100 = .ok (.getfield 102, 3) := by decide +kernel
theorem dX11_far_103 : decode cX11_far 103 = .ok (.ifCond .ne 5, 3) := by decide +kernel
theorem dX11_far_106 : decode cX11_far 106 = .ok (.iconst 0, 1) := by decide +kernel
theorem dX11_far_107 : decode cX11_far 107 = .ok (.ireturn, 1) := by decide +kernel
theorem dX11_far_108 : decode cX11_far 108 = .ok (.aload_n 0, 1) := by decide +kernel
theorem dX11_far_109 : decode cX11_far 109 = .ok (.getfield 10, 3) := by decide +kernel
theorem dX11_far_112 : decode cX11_far 112 = .ok (.getfield 143, 3) := by decide +kernel
theorem dX11_far_115 : decode cX11_far 115 = .ok (.iload_n 1, 1) := by decide +kernel
theorem dX11_far_116 : decode cX11_far 116 = .ok (.iaload, 1) := by decide +kernel
theorem dX11_far_117 : decode cX11_far 117 = .ok (.iload_n 2, 1) := by decide +kernel
theorem dX11_far_118 : decode cX11_far 118 = .ok (.iload_n 3, 1) := by decide +kernel
theorem dX11_far_119 : decode cX11_far 119 = .ok (.invokestatic 146, 3) := by decide +kernel
theorem dX11_far_122 : decode cX11_far 122 = .ok (.istore 5, 2) := by decide +kernel
theorem dX11_far_124 : decode cX11_far 124 = .ok (.iload 5, 2) := by decide +kernel
theorem dX11_far_126 : decode cX11_far 126 = .ok (.iconst 1, 1) := by decide +kernel
theorem dX11_far_127 : decode cX11_far 127 = .ok (.iadd, 1) := by decide +kernel
theorem dX11_far_128 : decode cX11_far 128 = .ok (.aload_n 0, 1) := by decide +kernel
theorem dX11_far_129 : decode cX11_far 129 = .ok (.getfield 26, 3) := by decide +kernel
theorem dX11_far_132 : decode cX11_far 132 = .ok (.bipush 99, 2) := by decide +kernel
theorem dX11_far_134 : decode cX11_far 134 = .ok (.bipush 100, 2) := by decide +kernel
theorem dX11_far_136 : decode cX11_far 136 = .ok (.invokevirtual 132, 3) := by decide +kernel
theorem dX11_far_139 : decode cX11_far 139 = .ok (.if_icmp .le 7, 3) := by decide +kernel
theorem dX11_far_142 : decode cX11_far 142 = .ok (.iconst 1, 1) := by decide +kernel
theorem dX11_far_143 : decode cX11_far 143 = .ok (.goto 4, 3) := by decide +kernel
theorem dX11_far_146 : decode cX11_far 146 = .ok (.iconst 0, 1) := by decide +kernel
theorem dX11_far_147 : decode cX11_far 147 = .ok (.ireturn, 1) := by decide +kernel
theorem dX11_moulds_0 : decode cX11_moulds 0 = .ok (.iload_n 1, 1) := by decide +kernel
theorem dX11_moulds_1 : decode cX11_moulds 1 = .ok (.iconst 0, 1) := by decide +kernel
theorem dX11_moulds_2 : decode cX11_moulds 2 = .ok (.iconst 5, 1) := by decide +kernel
theorem dX11_moulds_3 : decode cX11_moulds 3 = .ok (.invokestatic 83, 3) := by decide +kernel
theorem dX11_moulds_6 : decode cX11_moulds 6 = .ok (.ifCond .eq 12, 3) := by decide +kernel
theorem dX11_moulds_9 : decode cX11_moulds 9 = .ok (.iload_n 2, 1) := by decide +kernel
theorem dX11_moulds_10 : decode cX11_moulds 10 = .ok (.iconst 0, 1) := by decide +kernel
theorem dX11_moulds_11 : decode cX11_moulds 11 = .ok (.iconst 1, 1) := by decide +kernel
theorem dX11_moulds_12 : decode cX11_moulds 12 = .ok (.invokestatic 83, 3) := by decide +kernel
theorem dX11_moulds_15 : decode cX11_moulds 15 = .ok (.ifCond .ne 6, 3) := by decide +kernel
theorem dX11_moulds_18 : decode cX11_moulds 18 = .ok (.bipush (-2), 2) := by decide +kernel
theorem dX11_moulds_20 : decode cX11_moulds 20 = .ok (.ireturn, 1) := by decide +kernel
theorem dX11_moulds_21 : decode cX11_moulds 21 = .ok (.iload_n 2, 1) := by decide +kernel
theorem dX11_moulds_22 : decode cX11_moulds 22 = .ok (.ifCond .ne 14, 3) := by decide +kernel
theorem dX11_moulds_25 : decode cX11_moulds 25 = .ok (.aload_n 0, 1) := by decide +kernel
theorem dX11_moulds_26 : decode cX11_moulds 26 = .ok (.getfield 10, 3) := by decide +kernel
theorem dX11_moulds_29 : decode cX11_moulds 29 = .ok (.iload_n 1, 1) := by decide +kernel
theorem dX11_moulds_30 : decode cX11_moulds 30 = .ok (.invokevirtual 150, 3) := by decide +kernel
theorem dX11_moulds_33 : decode cX11_moulds 33 = .ok (.goto 11, 3) := by decide +kernel
theorem dX11_moulds_36 : decode cX11_moulds 36 = .ok (.aload_n 0, 1) := by decide +kernel
theorem dX11_moulds_37 : decode cX11_moulds 37 = .ok (.getfield 10, 3) := by decide +kernel
theorem dX11_moulds_40 : decode cX11_moulds 40 = .ok (.iload_n 1, 1) := by decide +kernel
theorem dX11_moulds_41 : decode cX11_moulds 41 = .ok (.invokevirtual 153, 3) := by decide +kernel
theorem dX11_moulds_44 : decode cX11_moulds 44 = .ok (.ireturn, 1) := by decide +kernel
theorem dX11_thereAre_0 : decode cX11_thereAre 0 = .ok (.iload_n 1, 1) := by decide +kernel
theorem dX11_thereAre_1 : decode cX11_thereAre 1 = .ok (.iconst 0, 1) := by decide +kernel
theorem dX11_thereAre_2 : decode cX11_thereAre 2 = .ok (.iconst 5, 1) := by decide +kernel
theorem dX11_thereAre_3 : decode cX11_thereAre 3 = .ok (.invokestatic 83, 3) := by decide +kernel
theorem dX11_thereAre_6 : decode cX11_thereAre 6 = .ok (.ifCond .eq 13, 3) := by decide +kernel
theorem dX11_thereAre_9 : decode cX11_thereAre 9 = .ok (.iload_n 2, 1) := by decide +kernel
theorem dX11_thereAre_10 : decode cX11_thereAre 10 = .ok (.iconst 0, 1) := by decide +kernel
theorem dX11_thereAre_11 : decode cX11_thereAre 11 = .ok (.bipush 30, 2) := by decide +kernel
theorem dX11_thereAre_13 : decode cX11_thereAre 13 = .ok (.invokestatic 83, 3) := by decide +kernel
theorem dX11_thereAre_16 : decode cX11_thereAre 16 = .ok (.ifCond .ne 6, 3) := by decide +kernel
theorem dX11_thereAre_19 : decode cX11_thereAre 19 = .ok (.bipush (-2), 2) := by decide +kernel
theorem dX11_thereAre_21 : decode cX11_thereAre 21 = .ok (.ireturn, 1) := by decide +kernel
theorem dX11_thereAre_22 : decode cX11_thereAre 22 = .ok (.aload_n 0, 1) := by decide +kernel
theorem dX11_thereAre_23 : decode cX11_thereAre 23 = .ok (.getfield 33, 3) := by decide +kernel
theorem dX11_thereAre_26 : decode cX11_thereAre 26 = .ok (.aload_n 0, 1) := by decide +kernel
theorem dX11_thereAre_27 : decode cX11_thereAre 27 = .ok (.getfield 10, 3) := by decide +kernel
theorem dX11_thereAre_30 : decode cX11_thereAre 30 = .ok (.iload_n 1, 1) := by decide +kernel
theorem dX11_thereAre_31 : decode cX11_thereAre 31 = .ok (.invokevirtual 150, 3) := by decide +kernel
theorem dX11_thereAre_34 : decode cX11_thereAre 34 = .ok (.aload_n 0, 1) := by decide +kernel
theorem dX11_thereAre_35 : decode cX11_thereAre 35 = .ok (.getfield 10, 3) := by decide +kernel
theorem dX11_thereAre_38 : decode cX11_thereAre 38 = .ok (.iload_n 1, 1) := by decide +kernel
theorem dX11_thereAre_39 : decode cX11_thereAre 39 = .ok (.invokevirtual 153, 3) := by decide +kernel
theorem dX11_thereAre_42 : decode cX11_thereAre 42 = .ok (.iload_n 2, 1) := by decide +kernel
theorem dX11_thereAre_43 : decode cX11_thereAre 43 = .ok (.aload_n 0, 1) := by decide +kernel
theorem dX11_thereAre_44 : decode cX11_thereAre 44 = .ok (.getfield 75, 3) := by decide +kernel
theorem dX11_thereAre_47 : decode cX11_thereAre 47 = .ok (.invokevirtual 156, 3) := by decide +kernel
theorem dX11_thereAre_50 : decode cX11_thereAre 50 = .ok (.iconst 1, 1) := by decide +kernel
theorem dX11_thereAre_51 : decode cX11_thereAre 51 = .ok (.ireturn, 1) := by decide +kernel
theorem dX11_can_0 : decode cX11_can 0 = .ok (.iload_n 1, 1) := by decide +kernel
theorem dX11_can_1 : decode cX11_can 1 = .ok (.iconst 1, 1) := by decide +kernel
theorem dX11_can_2 : decode cX11_can 2 = .ok (.bipush 20, 2) := by decide +kernel
theorem dX11_can_4 : decode cX11_can 4 = .ok (.invokestatic 83, 3) := by decide +kernel
theorem dX11_can_7 : decode cX11_can 7 = .ok (.ifCond .eq 45, 3) := by decide +kernel
theorem dX11_can_10 : decode cX11_can 10 = .ok (.iload_n 2, 1) := by decide +kernel
theorem dX11_can_11 : decode cX11_can 11 = .ok (.iconst 1, 1) := by decide +kernel
theorem dX11_can_12 : decode cX11_can 12 = .ok (.bipush 9, 2) := by decide +kernel
theorem dX11_can_14 : decode cX11_can 14 = .ok (.invokestatic 83, 3) := by decide +kernel
theorem dX11_can_17 : decode cX11_can 17 = .ok (.ifCond .eq 35, 3) := by decide +kernel
theorem dX11_can_20 : decode cX11_can 20 = .ok (.iload_n 3, 1) := by decide +kernel
theorem dX11_can_21 : decode cX11_can 21 = .ok (.iconst 1, 1) := by decide +kernel
theorem dX11_can_22 : decode cX11_can 22 = .ok (.bipush 7, 2) := by decide +kernel
theorem dX11_can_24 : decode cX11_can 24 = .ok (.invokestatic 83, 3) := by decide +kernel
theorem dX11_can_27 : decode cX11_can 27 = .ok (.ifCond .eq 25, 3) := by decide +kernel
theorem dX11_can_30 : decode cX11_can 30 = .ok (.iload 4, 2) := by decide +kernel
theorem dX11_can_32 : decode cX11_can 32 = .ok (.iconst 1, 1) := by decide +kernel
theorem dX11_can_33 : decode cX11_can 33 = .ok (.bipush 99, 2) := by decide +kernel
theorem dX11_can_35 : decode cX11_can 35 = .ok (.invokestatic 83, 3) := by decide +kernel
theorem dX11_can_38 : decode cX11_can 38 = .ok (.ifCond .eq 14, 3) := by decide +kernel
theorem dX11_can_41 : decode cX11_can 41 = .ok (.iload 5, 2) := by decide +kernel
theorem dX11_can_43 : decode cX11_can 43 = .ok (.iconst 0, 1) := by decide +kernel
theorem dX11_can_44 : decode cX11_can 44 = .ok (.bipush 99, 2) := by decide +kernel
theorem dX11_can_46 : decode cX11_can 46 = .ok (.invokestatic 83, 3) := by decide +kernel
theorem dX11_can_49 : decode cX11_can 49 = .ok (.ifCond .ne 6, 3) := by decide +kernel
theorem dX11_can_52 : decode cX11_can 52 = .ok (.bipush (-2), 2) := by decide +kernel
theorem dX11_can_54 : decode cX11_can 54 = .ok (.ireturn, 1) := by decide +kernel
theorem dX11_can_55 : decode cX11_can 55 = .ok (.iload_n 1, 1) := by decide +kernel
theorem dX11_can_56 : decode cX11_can 56 = .ok (.iload_n 2, 1) := by decide +kernel
theorem dX11_can_57 : decode cX11_can 57 = .ok (.imul, 1) := by decide +kernel
theorem dX11_can_58 : decode cX11_can 58 = .ok (.iload_n 3, 1) := by decide +kernel
theorem dX11_can_59 : decode cX11_can 59 = .ok (.imul, 1) := by decide +kernel
theorem dX11_can_60 : decode cX11_can 60 = .ok (.iload 5, 2) := by decide +kernel
theorem dX11_can_62 : decode cX11_can 62 = .ok (.imul, 1) := by decide +kernel
theorem dX11_can_63 : decode cX11_can 63 = .ok (.iload 4, 2) := by decide +kernel
theorem dX11_can_65 : decode cX11_can 65 = .ok (.idiv, 1) := by decide +kernel
theorem dX11_can_66 : decode cX11_can 66 = .ok (.ireturn, 1) := by decide +kernel
theorem dX11_word_0 : decode cX11_word 0 = .ok (.iload_n 1, 1) := by decide +kernel
theorem dX11_word_1 : decode cX11_word 1 = .ok (.iload_n 2, 1) := by decide +kernel
theorem dX11_word_2 : decode cX11_word 2 = .ok (.invokestatic 159, 3) := by decide +kernel
theorem dX11_word_5 : decode cX11_word 5 = .ok (.ifCond .eq 26, 3) := by decide +kernel
theorem dX11_word_8 : decode cX11_word 8 = .ok (.iload_n 3, 1) := by decide +kernel
theorem dX11_word_9 : decode cX11_word 9 = .ok (.iconst 0, 1) := by decide +kernel
theorem dX11_word_10 : decode cX11_word 10 = .ok (.sipush 9999, 3) := by decide +kernel
theorem dX11_word_13 : decode cX11_word 13 = .ok (.invokestatic 83, 3) := by decide +kernel
theorem dX11_word_16 : decode cX11_word 16 = .ok (.ifCond .eq 15, 3) := by decide +kernel
theorem dX11_word_19 : decode cX11_word 19 = .ok (.iload 4, 2) := by decide +kernel
theorem dX11_word_21 : decode cX11_word 21 = .ok (.iload_n 3, 1) := by decide +kernel
theorem dX11_word_22 : decode cX11_word 22 = .ok (.sipush 9999, 3) := by decide +kernel
theorem dX11_word_25 : decode cX11_word 25 = .ok (.invokestatic 83, 3) := by decide +kernel
theorem dX11_word_28 : decode cX11_word 28 = .ok (.ifCond .ne 6, 3) := by decide +kernel
theorem dX11_word_31 : decode cX11_word 31 = .ok (.bipush (-2), 2) := by decide +kernel
theorem dX11_word_33 : decode cX11_word 33 = .ok (.ireturn, 1) := by decide +kernel
theorem dX11_word_34 : decode cX11_word 34 = .ok (.aload_n 0, 1) := by decide +kernel
theorem dX11_word_35 : decode cX11_word 35 = .ok (.getfield 40, 3) := by decide +kernel
theorem dX11_word_38 : decode cX11_word 38 = .ok (.iload_n 1, 1) := by decide +kernel
theorem dX11_word_39 : decode cX11_word 39 = .ok (.iload_n 2, 1) := by decide +kernel
theorem dX11_word_40 : decode cX11_word 40 = .ok (.iload_n 3, 1) := by decide +kernel
theorem dX11_word_41 : decode cX11_word 41 = .ok (.iload 4, 2) := by decide +kernel
theorem dX11_word_43 : decode cX11_word 43 = .ok (.invokevirtual 162, 3) := by decide +kernel
theorem dX11_word_46 : decode cX11_word 46 = .ok (.ireturn, 1) := by decide +kernel
theorem dX11_wordless_0 : decode cX11_wordless 0 = .ok (.aload_n 0, 1) := by decide +kernel
theorem dX11_wordless_1 : decode cX11_wordless 1 = .ok (.getfield 40, 3) := by decide +kernel
theorem dX11_wordless_4 : decode cX11_wordless 4 = .ok (.invokevirtual 165, 3) := by decide +kernel
theorem dX11_wordless_7 : decode cX11_wordless 7 = .ok (.ireturn, 1) := by decide +kernel
theorem dX11_keys_0 : decode cX11_keys 0 = .ok (.aload_n 0, 1) := by decide +kernel
theorem dX11_keys_1 : decode cX11_keys 1 = .ok (.getfield 40, 3) := by decide +kernel
theorem dX11_keys_4 : decode cX11_keys 4 = .ok (.invokevirtual 168, 3) := by decide +kernel
theorem dX11_keys_7 : decode cX11_keys 7 = .ok (.ireturn, 1) := by decide +kernel
theorem dX11_may_0 : decode cX11_may 0 = .ok (.iload_n 1, 1) := by decide +kernel
theorem dX11_may_1 : decode cX11_may 1 = .ok (.iconst 0, 1) := by decide +kernel
theorem dX11_may_2 : decode cX11_may 2 = .ok (.iconst 5, 1) := by decide +kernel
theorem dX11_may_3 : decode cX11_may 3 = .ok (.invokestatic 83, 3) := by decide +kernel
theorem dX11_may_6 : decode cX11_may 6 = .ok (.ifCond .ne 6, 3) := by decide +kernel
theorem dX11_may_9 : decode cX11_may 9 = .ok (.bipush (-2), 2) := by decide +kernel
theorem dX11_may_11 : decode cX11_may 11 = .ok (.ireturn, 1) := by decide +kernel
theorem dX11_may_12 : decode cX11_may 12 = .ok (.aload_n 0, 1) := by decide +kernel
theorem dX11_may_13 : decode cX11_may 13 = .ok (.getfield 40, 3) := by decide +kernel
theorem dX11_may_16 : decode cX11_may 16 = .ok (.iload_n 1, 1) := by decide +kernel
theorem dX11_may_17 : decode cX11_may 17 = .ok (.invokevirtual 171, 3) := by decide +kernel
theorem dX11_may_20 : decode cX11_may 20 = .ok (.ireturn, 1) := by decide +kernel
theorem dX11_reads_0 : decode cX11_reads 0 = .ok (.iload_n 1, 1) := by decide +kernel
theorem dX11_reads_1 : decode cX11_reads 1 = .ok (.iload_n 2, 1) := by decide +kernel
theorem dX11_reads_2 : decode cX11_reads 2 = .ok (.invokestatic 159, 3) := by decide +kernel
theorem dX11_reads_5 : decode cX11_reads 5 = .ok (.ifCond .eq 12, 3) := by decide +kernel
theorem dX11_reads_8 : decode cX11_reads 8 = .ok (.iload_n 3, 1) := by decide +kernel
theorem dX11_reads_9 : decode cX11_reads 9 = .ok (.iconst 0, 1) := by decide +kernel
theorem dX11_reads_10 : decode cX11_reads 10 = .ok (.iconst 1, 1) := by decide +kernel
theorem dX11_reads_11 : decode cX11_reads 11 = .ok (.invokestatic 83, 3) := by decide +kernel
theorem dX11_reads_14 : decode cX11_reads 14 = .ok (.ifCond .ne 6, 3) := by decide +kernel
theorem dX11_reads_17 : decode cX11_reads 17 = .ok (.bipush (-2), 2) := by decide +kernel
theorem dX11_reads_19 : decode cX11_reads 19 = .ok (.ireturn, 1) := by decide +kernel
theorem dX11_reads_20 : decode cX11_reads 20 = .ok (.aload_n 0, 1) := by decide +kernel
theorem dX11_reads_21 : decode cX11_reads 21 = .ok (.getfield 40, 3) := by decide +kernel
theorem dX11_reads_24 : decode cX11_reads 24 = .ok (.iload_n 1, 1) := by decide +kernel
theorem dX11_reads_25 : decode cX11_reads 25 = .ok (.iload_n 2, 1) := by decide +kernel
theorem dX11_reads_26 : decode cX11_reads 26 = .ok (.iload_n 3, 1) := by decide +kernel
theorem dX11_reads_27 : decode cX11_reads 27 = .ok (.iconst 1, 1) := by decide +kernel
theorem dX11_reads_28 : decode cX11_reads 28 = .ok (.if_icmp .ne 7, 3) := by decide +kernel
theorem dX11_reads_31 : decode cX11_reads 31 = .ok (.iconst 1, 1) := by decide +kernel
theorem dX11_reads_32 : decode cX11_reads 32 = .ok (.goto 4, 3) := by decide +kernel
theorem dX11_reads_35 : decode cX11_reads 35 = .ok (.iconst 0, 1) := by decide +kernel
theorem dX11_reads_36 : decode cX11_reads 36 = .ok (.invokevirtual 174, 3) := by decide +kernel
theorem dX11_reads_39 : decode cX11_reads 39 = .ok (.ireturn, 1) := by decide +kernel
theorem dX11_runs_0 : decode cX11_runs 0 = .ok (.iload_n 1, 1) := by decide +kernel
theorem dX11_runs_1 : decode cX11_runs 1 = .ok (.iconst 0, 1) := by decide +kernel
theorem dX11_runs_2 : decode cX11_runs 2 = .ok (.iconst 5, 1) := by decide +kernel
theorem dX11_runs_3 : decode cX11_runs 3 = .ok (.invokestatic 83, 3) := by decide +kernel
theorem dX11_runs_6 : decode cX11_runs 6 = .ok (.ifCond .eq 12, 3) := by decide +kernel
theorem dX11_runs_9 : decode cX11_runs 9 = .ok (.iload_n 2, 1) := by decide +kernel
theorem dX11_runs_10 : decode cX11_runs 10 = .ok (.iconst 0, 1) := by decide +kernel
theorem dX11_runs_11 : decode cX11_runs 11 = .ok (.iconst 1, 1) := by decide +kernel
theorem dX11_runs_12 : decode cX11_runs 12 = .ok (.invokestatic 83, 3) := by decide +kernel
theorem dX11_runs_15 : decode cX11_runs 15 = .ok (.ifCond .ne 6, 3) := by decide +kernel
theorem dX11_runs_18 : decode cX11_runs 18 = .ok (.bipush (-2), 2) := by decide +kernel
theorem dX11_runs_20 : decode cX11_runs 20 = .ok (.ireturn, 1) := by decide +kernel
theorem dX11_runs_21 : decode cX11_runs 21 = .ok (.aload_n 0, 1) := by decide +kernel
theorem dX11_runs_22 : decode cX11_runs 22 = .ok (.getfield 47, 3) := by decide +kernel
theorem dX11_runs_25 : decode cX11_runs 25 = .ok (.aload_n 0, 1) := by decide +kernel
theorem dX11_runs_26 : decode cX11_runs 26 = .ok (.getfield 10, 3) := by decide +kernel
theorem dX11_runs_29 : decode cX11_runs 29 = .ok (.iload_n 1, 1) := by decide +kernel
theorem dX11_runs_30 : decode cX11_runs 30 = .ok (.invokevirtual 178, 3) := by decide +kernel
theorem dX11_runs_33 : decode cX11_runs 33 = .ok (.iload_n 2, 1) := by decide +kernel
theorem dX11_runs_34 : decode cX11_runs 34 = .ok (.ifCond .ne 13, 3) := by decide +kernel
theorem dX11_runs_37 : decode cX11_runs 37 = .ok (.aload_n 0, 1) := by decide +kernel
theorem dX11_runs_38 : decode cX11_runs 38 = .ok (.getfield 47, 3) := by decide +kernel
theorem dX11_runs_41 : decode cX11_runs 41 = .ok (.invokevirtual 182, 3) := by decide +kernel
theorem dX11_runs_44 : decode cX11_runs 44 = .ok (.goto 10, 3) := by decide +kernel
theorem dX11_runs_47 : decode cX11_runs 47 = .ok (.aload_n 0, 1) := by decide +kernel
theorem dX11_runs_48 : decode cX11_runs 48 = .ok (.getfield 47, 3) := by decide +kernel
theorem dX11_runs_51 : decode cX11_runs 51 = .ok (.invokevirtual 185, 3) := by decide +kernel
theorem dX11_runs_54 : decode cX11_runs 54 = .ok (.ireturn, 1) := by decide +kernel
theorem dX11_gap_0 : decode cX11_gap 0 = .ok (.iload_n 1, 1) := by decide +kernel
theorem dX11_gap_1 : decode cX11_gap 1 = .ok (.iconst 0, 1) := by decide +kernel
theorem dX11_gap_2 : decode cX11_gap 2 = .ok (.iconst 5, 1) := by decide +kernel
theorem dX11_gap_3 : decode cX11_gap 3 = .ok (.invokestatic 83, 3) := by decide +kernel
theorem dX11_gap_6 : decode cX11_gap 6 = .ok (.ifCond .eq 22, 3) := by decide +kernel
theorem dX11_gap_9 : decode cX11_gap 9 = .ok (.iload_n 2, 1) := by decide +kernel
theorem dX11_gap_10 : decode cX11_gap 10 = .ok (.iconst 1, 1) := by decide +kernel
theorem dX11_gap_11 : decode cX11_gap 11 = .ok (.bipush 30, 2) := by decide +kernel
theorem dX11_gap_13 : decode cX11_gap 13 = .ok (.invokestatic 83, 3) := by decide +kernel
theorem dX11_gap_16 : decode cX11_gap 16 = .ok (.ifCond .eq 12, 3) := by decide +kernel
theorem dX11_gap_19 : decode cX11_gap 19 = .ok (.iload_n 3, 1) := by decide +kernel
theorem dX11_gap_20 : decode cX11_gap 20 = .ok (.iconst 0, 1) := by decide +kernel
theorem dX11_gap_21 : decode cX11_gap 21 = .ok (.iconst 1, 1) := by decide +kernel
theorem dX11_gap_22 : decode cX11_gap 22 = .ok (.invokestatic 83, 3) := by decide +kernel
theorem dX11_gap_25 : decode cX11_gap 25 = .ok (.ifCond .ne 6, 3) := by decide +kernel
theorem dX11_gap_28 : decode cX11_gap 28 = .ok (.bipush (-2), 2) := by decide +kernel
theorem dX11_gap_30 : decode cX11_gap 30 = .ok (.ireturn, 1) := by decide +kernel
theorem dX11_gap_31 : decode cX11_gap 31 = .ok (.aload_n 0, 1) := by decide +kernel
theorem dX11_gap_32 : decode cX11_gap 32 = .ok (.getfield 47, 3) := by decide +kernel
theorem dX11_gap_35 : decode cX11_gap 35 = .ok (.aload_n 0, 1) := by decide +kernel
theorem dX11_gap_36 : decode cX11_gap 36 = .ok (.getfield 10, 3) := by decide +kernel
theorem dX11_gap_39 : decode cX11_gap 39 = .ok (.iload_n 1, 1) := by decide +kernel
theorem dX11_gap_40 : decode cX11_gap 40 = .ok (.iload_n 2, 1) := by decide +kernel
theorem dX11_gap_41 : decode cX11_gap 41 = .ok (.invokevirtual 188, 3) := by decide +kernel
theorem dX11_gap_44 : decode cX11_gap 44 = .ok (.iconst 1, 1) := by decide +kernel
theorem dX11_gap_45 : decode cX11_gap 45 = .ok (.bipush 12, 2) := by decide +kernel
theorem dX11_gap_47 : decode cX11_gap 47 = .ok (.invokestatic 83, 3) := by decide +kernel
theorem dX11_gap_50 : decode cX11_gap 50 = .ok (.ifCond .ne 6, 3) := by decide +kernel
theorem dX11_gap_53 : decode cX11_gap 53 = .ok (.bipush (-3), 2) := by decide +kernel
theorem dX11_gap_55 : decode cX11_gap 55 = .ok (.ireturn, 1) := by decide +kernel
theorem dX11_gap_56 : decode cX11_gap 56 = .ok (.iload_n 3, 1) := by decide +kernel
theorem dX11_gap_57 : decode cX11_gap 57 = .ok (.ifCond .ne 13, 3) := by decide +kernel
theorem dX11_gap_60 : decode cX11_gap 60 = .ok (.aload_n 0, 1) := by decide +kernel
theorem dX11_gap_61 : decode cX11_gap 61 = .ok (.getfield 47, 3) := by decide +kernel
theorem dX11_gap_64 : decode cX11_gap 64 = .ok (.getfield 192, 3) := by decide +kernel
theorem dX11_gap_67 : decode cX11_gap 67 = .ok (.goto 10, 3) := by decide +kernel
theorem dX11_gap_70 : decode cX11_gap 70 = .ok (.aload_n 0, 1) := by decide +kernel
theorem dX11_gap_71 : decode cX11_gap 71 = .ok (.getfield 47, 3) := by decide +kernel
theorem dX11_gap_74 : decode cX11_gap 74 = .ok (.getfield 195, 3) := by decide +kernel
theorem dX11_gap_77 : decode cX11_gap 77 = .ok (.ireturn, 1) := by decide +kernel
theorem dX11_chance_0 : decode cX11_chance 0 = .ok (.iload_n 1, 1) := by decide +kernel
theorem dX11_chance_1 : decode cX11_chance 1 = .ok (.iconst 0, 1) := by decide +kernel
theorem dX11_chance_2 : decode cX11_chance 2 = .ok (.iconst 5, 1) := by decide +kernel
theorem dX11_chance_3 : decode cX11_chance 3 = .ok (.invokestatic 83, 3) := by decide +kernel
theorem dX11_chance_6 : decode cX11_chance 6 = .ok (.ifCond .eq 13, 3) := by decide +kernel
theorem dX11_chance_9 : decode cX11_chance 9 = .ok (.iload_n 2, 1) := by decide +kernel
theorem dX11_chance_10 : decode cX11_chance 10 = .ok (.iconst 1, 1) := by decide +kernel
theorem dX11_chance_11 : decode cX11_chance 11 = .ok (.bipush 30, 2) := by decide +kernel
theorem dX11_chance_13 : decode cX11_chance 13 = .ok (.invokestatic 83, 3) := by decide +kernel
theorem dX11_chance_16 : decode cX11_chance 16 = .ok (.ifCond .ne 6, 3) := by decide +kernel
theorem dX11_chance_19 : decode cX11_chance 19 = .ok (.bipush (-2), 2) := by decide +kernel
theorem dX11_chance_21 : decode cX11_chance 21 = .ok (.ireturn, 1) := by decide +kernel
theorem dX11_chance_22 : decode cX11_chance 22 = .ok (.aload_n 0, 1) := by decide +kernel
theorem dX11_chance_23 : decode cX11_chance 23 = .ok (.getfield 47, 3) := by decide +kernel
theorem dX11_chance_26 : decode cX11_chance 26 = .ok (.aload_n 0, 1) := by decide +kernel
theorem dX11_chance_27 : decode cX11_chance 27 = .ok (.getfield 10, 3) := by decide +kernel
theorem dX11_chance_30 : decode cX11_chance 30 = .ok (.iload_n 1, 1) := by decide +kernel
theorem dX11_chance_31 : decode cX11_chance 31 = .ok (.iload_n 2, 1) := by decide +kernel
theorem dX11_chance_32 : decode cX11_chance 32 = .ok (.invokevirtual 188, 3) := by decide +kernel
theorem dX11_chance_35 : decode cX11_chance 35 = .ok (.istore_n 3, 1) := by decide +kernel
theorem dX11_chance_36 : decode cX11_chance 36 = .ok (.iload_n 3, 1) := by decide +kernel
theorem dX11_chance_37 : decode cX11_chance 37 = .ok (.iconst 1, 1) := by decide +kernel
theorem dX11_chance_38 : decode cX11_chance 38 = .ok (.bipush 12, 2) := by decide +kernel
theorem dX11_chance_40 : decode cX11_chance 40 = .ok (.invokestatic 83, 3) := by decide +kernel
theorem dX11_chance_43 : decode cX11_chance 43 = .ok (.ifCond .ne 6, 3) := by decide +kernel
theorem dX11_chance_46 : decode cX11_chance 46 = .ok (.bipush (-3), 2) := by decide +kernel
theorem dX11_chance_48 : decode cX11_chance 48 = .ok (.ireturn, 1) := by decide +kernel
theorem dX11_chance_49 : decode cX11_chance 49 = .ok (.aload_n 0, 1) := by decide +kernel
theorem dX11_chance_50 : decode cX11_chance 50 = .ok (.getfield 47, 3) := by decide +kernel
theorem dX11_chance_53 : decode cX11_chance 53 = .ok (.iload_n 2, 1) := by decide +kernel
theorem dX11_chance_54 : decode cX11_chance 54 = .ok (.iload_n 3, 1) := by decide +kernel
theorem dX11_chance_55 : decode cX11_chance 55 = .ok (.aload_n 0, 1) := by decide +kernel
theorem dX11_chance_56 : decode cX11_chance 56 = .ok (.getfield 75, 3) := by decide +kernel
theorem dX11_chance_59 : decode cX11_chance 59 = .ok (.invokevirtual 198, 3) := by decide +kernel
theorem dX11_chance_62 : decode cX11_chance 62 = .ok (.iconst 1, 1) := by decide +kernel
theorem dX11_chance_63 : decode cX11_chance 63 = .ok (.ireturn, 1) := by decide +kernel
theorem dX11_said_0 : decode cX11_said 0 = .ok (.iload_n 1, 1) := by decide +kernel
theorem dX11_said_1 : decode cX11_said 1 = .ok (.iconst 0, 1) := by decide +kernel
theorem dX11_said_2 : decode cX11_said 2 = .ok (.iconst 5, 1) := by decide +kernel
theorem dX11_said_3 : decode cX11_said 3 = .ok (.invokestatic 83, 3) := by decide +kernel
theorem dX11_said_6 : decode cX11_said 6 = .ok (.ifCond .eq 25, 3) := by decide +kernel
theorem dX11_said_9 : decode cX11_said 9 = .ok (.iload_n 2, 1) := by decide +kernel
theorem dX11_said_10 : decode cX11_said 10 = .ok (.iconst 0, 1) := by decide +kernel
theorem dX11_said_11 : decode cX11_said 11 = .ok (.sipush 9999, 3) := by decide +kernel
theorem dX11_said_14 : decode cX11_said 14 = .ok (.invokestatic 83, 3) := by decide +kernel
theorem dX11_said_17 : decode cX11_said 17 = .ok (.ifCond .eq 14, 3) := by decide +kernel
theorem dX11_said_20 : decode cX11_said 20 = .ok (.iload_n 3, 1) := by decide +kernel
theorem dX11_said_21 : decode cX11_said 21 = .ok (.iconst 0, 1) := by decide +kernel
theorem dX11_said_22 : decode cX11_said 22 = .ok (.sipush 9999, 3) := by decide +kernel
theorem dX11_said_25 : decode cX11_said 25 = .ok (.invokestatic 83, 3) := by decide +kernel
theorem dX11_said_28 : decode cX11_said 28 = .ok (.ifCond .ne 6, 3) := by decide +kernel
theorem dX11_said_31 : decode cX11_said 31 = .ok (.bipush (-2), 2) := by decide +kernel
theorem dX11_said_33 : decode cX11_said 33 = .ok (.ireturn, 1) := by decide +kernel
theorem dX11_said_34 : decode cX11_said 34 = .ok (.aload_n 0, 1) := by decide +kernel
theorem dX11_said_35 : decode cX11_said 35 = .ok (.getfield 54, 3) := by decide +kernel
theorem dX11_said_38 : decode cX11_said 38 = .ok (.iload_n 1, 1) := by decide +kernel
theorem dX11_said_39 : decode cX11_said 39 = .ok (.iload_n 2, 1) := by decide +kernel
theorem dX11_said_40 : decode cX11_said 40 = .ok (.iload_n 3, 1) := by decide +kernel
theorem dX11_said_41 : decode cX11_said 41 = .ok (.invokevirtual 201, 3) := by decide +kernel
theorem dX11_said_44 : decode cX11_said 44 = .ok (.ireturn, 1) := by decide +kernel
theorem dX11_agent_0 : decode cX11_agent 0 = .ok (.iload_n 1, 1) := by decide +kernel
theorem dX11_agent_1 : decode cX11_agent 1 = .ok (.iconst 0, 1) := by decide +kernel
theorem dX11_agent_2 : decode cX11_agent 2 = .ok (.iconst 5, 1) := by decide +kernel
theorem dX11_agent_3 : decode cX11_agent 3 = .ok (.invokestatic 83, 3) := by decide +kernel
theorem dX11_agent_6 : decode cX11_agent 6 = .ok (.ifCond .eq 12, 3) := by decide +kernel
theorem dX11_agent_9 : decode cX11_agent 9 = .ok (.iload_n 2, 1) := by decide +kernel
theorem dX11_agent_10 : decode cX11_agent 10 = .ok (.iconst 0, 1) := by decide +kernel
theorem dX11_agent_11 : decode cX11_agent 11 = .ok (.iconst 1, 1) := by decide +kernel
theorem dX11_agent_12 : decode cX11_agent 12 = .ok (.invokestatic 83, 3) := by decide +kernel
theorem dX11_agent_15 : decode cX11_agent 15 = .ok (.ifCond .ne 6, 3) := by decide +kernel
theorem dX11_agent_18 : decode cX11_agent 18 = .ok (.bipush (-2), 2) := by decide +kernel
theorem dX11_agent_20 : decode cX11_agent 20 = .ok (.ireturn, 1) := by decide +kernel
theorem dX11_agent_21 : decode cX11_agent 21 = .ok (.aload_n 0, 1) := by decide +kernel
theorem dX11_agent_22 : decode cX11_agent 22 = .ok (.getfield 54, 3) := by decide +kernel
theorem dX11_agent_25 : decode cX11_agent 25 = .ok (.iload_n 1, 1) := by decide +kernel
theorem dX11_agent_26 : decode cX11_agent 26 = .ok (.invokevirtual 203, 3) := by decide +kernel
theorem dX11_agent_29 : decode cX11_agent 29 = .ok (.iload_n 2, 1) := by decide +kernel
theorem dX11_agent_30 : decode cX11_agent 30 = .ok (.ifCond .ne 13, 3) := by decide +kernel
theorem dX11_agent_33 : decode cX11_agent 33 = .ok (.aload_n 0, 1) := by decide +kernel
theorem dX11_agent_34 : decode cX11_agent 34 = .ok (.getfield 54, 3) := by decide +kernel
theorem dX11_agent_37 : decode cX11_agent 37 = .ok (.getfield 207, 3) := by decide +kernel
theorem dX11_agent_40 : decode cX11_agent 40 = .ok (.goto 11, 3) := by decide +kernel
theorem dX11_agent_43 : decode cX11_agent 43 = .ok (.aload_n 0, 1) := by decide +kernel
theorem dX11_agent_44 : decode cX11_agent 44 = .ok (.getfield 54, 3) := by decide +kernel
theorem dX11_agent_47 : decode cX11_agent 47 = .ok (.getfield 211, 3) := by decide +kernel
theorem dX11_agent_50 : decode cX11_agent 50 = .ok (.i2l, 1) := by decide +kernel
theorem dX11_agent_51 : decode cX11_agent 51 = .ok (.lstore_n 3, 1) := by decide +kernel
theorem dX11_agent_52 : decode cX11_agent 52 = .ok (.lload_n 3, 1) := by decide +kernel
theorem dX11_agent_53 : decode cX11_agent 53 = .ok (.lconst 0, 1) := by decide +kernel
theorem dX11_agent_54 : decode cX11_agent 54 = .ok (.lcmp, 1) := by decide +kernel
theorem dX11_agent_55 : decode cX11_agent 55 = .ok (.ifCond .ne 6, 3) := by decide +kernel
theorem dX11_agent_58 : decode cX11_agent 58 = .ok (.bipush (-3), 2) := by decide +kernel
theorem dX11_agent_60 : decode cX11_agent 60 = .ok (.ireturn, 1) := by decide +kernel
theorem dX11_agent_61 : decode cX11_agent 61 = .ok (.aload_n 0, 1) := by decide +kernel
theorem dX11_agent_62 : decode cX11_agent 62 = .ok (.getfield 75, 3) := by decide +kernel
theorem dX11_agent_65 : decode cX11_agent 65 = .ok (.iload_n 2, 1) := by decide +kernel
theorem dX11_agent_66 : decode cX11_agent 66 = .ok (.ifCond .ne 13, 3) := by decide +kernel
theorem dX11_agent_69 : decode cX11_agent 69 = .ok (.aload_n 0, 1) := by decide +kernel
theorem dX11_agent_70 : decode cX11_agent 70 = .ok (.getfield 54, 3) := by decide +kernel
theorem dX11_agent_73 : decode cX11_agent 73 = .ok (.getfield 214, 3) := by decide +kernel
theorem dX11_agent_76 : decode cX11_agent 76 = .ok (.goto 10, 3) := by decide +kernel
theorem dX11_agent_79 : decode cX11_agent 79 = .ok (.aload_n 0, 1) := by decide +kernel
theorem dX11_agent_80 : decode cX11_agent 80 = .ok (.getfield 54, 3) := by decide +kernel
theorem dX11_agent_83 : decode cX11_agent 83 = .ok (.getfield 217, 3) := by decide +kernel
theorem dX11_agent_86 : decode cX11_agent 86 = .ok (.lload_n 3, 1) := by decide +kernel
theorem dX11_agent_87 : decode cX11_agent 87 = .ok (.invokevirtual 220, 3) := by decide +kernel
theorem dX11_agent_90 : decode cX11_agent 90 = .ok (.iconst 1, 1) := by decide +kernel
theorem dX11_agent_91 : decode cX11_agent 91 = .ok (.ireturn, 1) := by decide +kernel
theorem dX11_putRight_0 : decode cX11_putRight 0 = .ok (.iload_n 1, 1) := by decide +kernel
theorem dX11_putRight_1 : decode cX11_putRight 1 = .ok (.iconst 0, 1) := by decide +kernel
theorem dX11_putRight_2 : decode cX11_putRight 2 = .ok (.iconst 5, 1) := by decide +kernel
theorem dX11_putRight_3 : decode cX11_putRight 3 = .ok (.invokestatic 83, 3) := by decide +kernel
theorem dX11_putRight_6 : decode cX11_putRight 6 = .ok (.ifCond .eq 14, 3) := by decide +kernel
theorem dX11_putRight_9 : decode cX11_putRight 9 = .ok (.iload_n 2, 1) := by decide +kernel
theorem dX11_putRight_10 : decode cX11_putRight 10 = .ok (.iconst 0, 1) := by decide +kernel
theorem dX11_putRight_11 : decode cX11_putRight 11 = .ok (.sipush 9999, 3) := by decide +kernel
theorem dX11_putRight_14 : decode cX11_putRight 14 = .ok (.invokestatic 83, 3) := by decide +kernel
theorem dX11_putRight_17 : decode cX11_putRight 17 = .ok (.ifCond .ne 6, 3) := by decide +kernel
theorem dX11_putRight_20 : decode cX11_putRight 20 = .ok (.bipush (-2), 2) := by decide +kernel
theorem dX11_putRight_22 : decode cX11_putRight 22 = .ok (.ireturn, 1) := by decide +kernel
theorem dX11_putRight_23 : decode cX11_putRight 23 = .ok (.aload_n 0, 1) := by decide +kernel
theorem dX11_putRight_24 : decode cX11_putRight 24 = .ok (.getfield 54, 3) := by decide +kernel
theorem dX11_putRight_27 : decode cX11_putRight 27 = .ok (.iload_n 1, 1) := by decide +kernel
theorem dX11_putRight_28 : decode cX11_putRight 28 = .ok (.invokevirtual 203, 3) := by decide +kernel
theorem dX11_putRight_31 : decode cX11_putRight 31 = .ok (.aload_n 0, 1) := by decide +kernel
theorem dX11_putRight_32 : decode cX11_putRight 32 = .ok (.getfield 54, 3) := by decide +kernel
theorem dX11_putRight_35 : decode cX11_putRight 35 = .ok (.getfield 207, 3) := by decide +kernel
theorem dX11_putRight_38 : decode cX11_putRight 38 = .ok (.lconst 0, 1) := by decide +kernel
theorem dX11_putRight_39 : decode cX11_putRight 39 = .ok (.lcmp, 1) := by decide +kernel
theorem dX11_putRight_40 : decode cX11_putRight 40 = .ok (.ifCond .ne 6, 3) := by decide +kernel
theorem dX11_putRight_43 : decode cX11_putRight 43 = .ok (.bipush (-3), 2) := by decide +kernel
theorem dX11_putRight_45 : decode cX11_putRight 45 = .ok (.ireturn, 1) := by decide +kernel
theorem dX11_putRight_46 : decode cX11_putRight 46 = .ok (.aload_n 0, 1) := by decide +kernel
theorem dX11_putRight_47 : decode cX11_putRight 47 = .ok (.getfield 75, 3) := by decide +kernel
theorem dX11_putRight_50 : decode cX11_putRight 50 = .ok (.iload_n 2, 1) := by decide +kernel
theorem dX11_putRight_51 : decode cX11_putRight 51 = .ok (.i2l, 1) := by decide +kernel
theorem dX11_putRight_52 : decode cX11_putRight 52 = .ok (.aload_n 0, 1) := by decide +kernel
theorem dX11_putRight_53 : decode cX11_putRight 53 = .ok (.getfield 54, 3) := by decide +kernel
theorem dX11_putRight_56 : decode cX11_putRight 56 = .ok (.getfield 214, 3) := by decide +kernel
theorem dX11_putRight_59 : decode cX11_putRight 59 = .ok (.lmul, 1) := by decide +kernel
theorem dX11_putRight_60 : decode cX11_putRight 60 = .ok (.aload_n 0, 1) := by decide +kernel
theorem dX11_putRight_61 : decode cX11_putRight 61 = .ok (.getfield 54, 3) := by decide +kernel
theorem dX11_putRight_64 : decode cX11_putRight 64 = .ok (.getfield 207, 3) := by decide +kernel
theorem dX11_putRight_67 : decode cX11_putRight 67 = .ok (.invokevirtual 220, 3) := by decide +kernel
theorem dX11_putRight_70 : decode cX11_putRight 70 = .ok (.iconst 1, 1) := by decide +kernel
theorem dX11_putRight_71 : decode cX11_putRight 71 = .ok (.ireturn, 1) := by decide +kernel
theorem dX11_front_0 : decode cX11_front 0 = .ok (.iload_n 1, 1) := by decide +kernel
theorem dX11_front_1 : decode cX11_front 1 = .ok (.iconst 0, 1) := by decide +kernel
theorem dX11_front_2 : decode cX11_front 2 = .ok (.iconst 3, 1) := by decide +kernel
theorem dX11_front_3 : decode cX11_front 3 = .ok (.invokestatic 83, 3) := by decide +kernel
theorem dX11_front_6 : decode cX11_front 6 = .ok (.ifCond .eq 11, 3) := by decide +kernel
theorem dX11_front_9 : decode cX11_front 9 = .ok (.iload_n 2, 1) := by decide +kernel
theorem dX11_front_10 : decode cX11_front 10 = .ok (.iload_n 3, 1) := by decide +kernel
theorem dX11_front_11 : decode cX11_front 11 = .ok (.invokestatic 126, 3) := by decide +kernel
theorem dX11_front_14 : decode cX11_front 14 = .ok (.ifCond .ne 6, 3) := by decide +kernel
theorem dX11_front_17 : decode cX11_front 17 = .ok (.bipush (-2), 2) := by decide +kernel
theorem dX11_front_19 : decode cX11_front 19 = .ok (.ireturn, 1) := by decide +kernel
theorem dX11_front_20 : decode cX11_front 20 = .ok (.aload_n 0, 1) := by decide +kernel
theorem dX11_front_21 : decode cX11_front 21 = .ok (.getfield 61, 3) := by decide +kernel
theorem dX11_front_24 : decode cX11_front 24 = .ok (.getfield 224, 3) := by decide +kernel
theorem dX11_front_27 : decode cX11_front 27 = .ok (.iload_n 1, 1) := by decide +kernel
theorem dX11_front_28 : decode cX11_front 28 = .ok (.iload_n 2, 1) := by decide +kernel
theorem dX11_front_29 : decode cX11_front 29 = .ok (.iastore, 1) := by decide +kernel
theorem dX11_front_30 : decode cX11_front 30 = .ok (.aload_n 0, 1) := by decide +kernel
theorem dX11_front_31 : decode cX11_front 31 = .ok (.getfield 61, 3) := by decide +kernel
theorem dX11_front_34 : decode cX11_front 34 = .ok (.getfield 227, 3) := by decide +kernel
theorem dX11_front_37 : decode cX11_front 37 = .ok (.iload_n 1, 1) := by decide +kernel
theorem dX11_front_38 : decode cX11_front 38 = .ok (.iload_n 3, 1) := by decide +kernel
theorem dX11_front_39 : decode cX11_front 39 = .ok (.iastore, 1) := by decide +kernel
theorem dX11_front_40 : decode cX11_front 40 = .ok (.iconst 1, 1) := by decide +kernel
theorem dX11_front_41 : decode cX11_front 41 = .ok (.ireturn, 1) := by decide +kernel
theorem dX11_lost_0 : decode cX11_lost 0 = .ok (.iload_n 1, 1) := by decide +kernel
theorem dX11_lost_1 : decode cX11_lost 1 = .ok (.iconst (-1), 1) := by decide +kernel
theorem dX11_lost_2 : decode cX11_lost 2 = .ok (.iconst 3, 1) := by decide +kernel
theorem dX11_lost_3 : decode cX11_lost 3 = .ok (.invokestatic 83, 3) := by decide +kernel
theorem dX11_lost_6 : decode cX11_lost 6 = .ok (.ifCond .ne 6, 3) := by decide +kernel
theorem dX11_lost_9 : decode cX11_lost 9 = .ok (.bipush (-2), 2) := by decide +kernel
theorem dX11_lost_11 : decode cX11_lost 11 = .ok (.ireturn, 1) := by decide +kernel
theorem dX11_lost_12 : decode cX11_lost 12 = .ok (.aload_n 0, 1) := by decide +kernel
theorem dX11_lost_13 : decode cX11_lost 13 = .ok (.getfield 61, 3) := by decide +kernel
theorem dX11_lost_16 : decode cX11_lost 16 = .ok (.iload_n 1, 1) := by decide +kernel
theorem dX11_lost_17 : decode cX11_lost 17 = .ok (.aload_n 0, 1) := by decide +kernel
theorem dX11_lost_18 : decode cX11_lost 18 = .ok (.getfield 10, 3) := by decide +kernel
theorem dX11_lost_21 : decode cX11_lost 21 = .ok (.aload_n 0, 1) := by decide +kernel
theorem dX11_lost_22 : decode cX11_lost 22 = .ok (.getfield 75, 3) := by decide +kernel
theorem dX11_lost_25 : decode cX11_lost 25 = .ok (.invokevirtual 230, 3) := by decide +kernel
theorem dX11_lost_28 : decode cX11_lost 28 = .ok (.iconst 1, 1) := by decide +kernel
theorem dX11_lost_29 : decode cX11_lost 29 = .ok (.ireturn, 1) := by decide +kernel
theorem dX11_book_0 : decode cX11_book 0 = .ok (.iload_n 1, 1) := by decide +kernel
theorem dX11_book_1 : decode cX11_book 1 = .ok (.iload_n 3, 1) := by decide +kernel
theorem dX11_book_2 : decode cX11_book 2 = .ok (.iload 4, 2) := by decide +kernel
theorem dX11_book_4 : decode cX11_book 4 = .ok (.invokestatic 111, 3) := by decide +kernel
theorem dX11_book_7 : decode cX11_book 7 = .ok (.ifCond .eq 18, 3) := by decide +kernel
theorem dX11_book_10 : decode cX11_book 10 = .ok (.iload_n 2, 1) := by decide +kernel
theorem dX11_book_11 : decode cX11_book 11 = .ok (.ifCond .eq 14, 3) := by decide +kernel
theorem dX11_book_14 : decode cX11_book 14 = .ok (.iload_n 2, 1) := by decide +kernel
theorem dX11_book_15 : decode cX11_book 15 = .ok (.iconst (-1), 1) := by decide +kernel
theorem dX11_book_16 : decode cX11_book 16 = .ok (.sipush 150, 3) := by decide +kernel
theorem dX11_book_19 : decode cX11_book 19 = .ok (.invokestatic 83, 3) := by decide +kernel
theorem dX11_book_22 : decode cX11_book 22 = .ok (.ifCond .ne 6, 3) := by decide +kernel
theorem dX11_book_25 : decode cX11_book 25 = .ok (.bipush (-10), 2) := by decide +kernel
theorem dX11_book_27 : decode cX11_book 27 = .ok (.ireturn, 1) := by decide +kernel
theorem dX11_book_28 : decode cX11_book 28 = .ok (.aload_n 0, 1) := by decide +kernel
theorem dX11_book_29 : decode cX11_book 29 = .ok (.getfield 68, 3) := by decide +kernel
theorem dX11_book_32 : decode cX11_book 32 = .ok (.iload_n 1, 1) := by decide +kernel
theorem dX11_book_33 : decode cX11_book 33 = .ok (.iload_n 2, 1) := by decide +kernel
theorem dX11_book_34 : decode cX11_book 34 = .ok (.iload_n 3, 1) := by decide +kernel
theorem dX11_book_35 : decode cX11_book 35 = .ok (.iload 4, 2) := by decide +kernel
theorem dX11_book_37 : decode cX11_book 37 = .ok (.invokevirtual 234, 3) := by decide +kernel
theorem dX11_book_40 : decode cX11_book 40 = .ok (.ireturn, 1) := by decide +kernel
theorem dX11_held_0 : decode cX11_held 0 = .ok (.iload_n 1, 1) := by decide +kernel
theorem dX11_held_1 : decode cX11_held 1 = .ok (.iload_n 2, 1) := by decide +kernel
theorem dX11_held_2 : decode cX11_held 2 = .ok (.invokestatic 126, 3) := by decide +kernel
theorem dX11_held_5 : decode cX11_held 5 = .ok (.ifCond .eq 12, 3) := by decide +kernel
theorem dX11_held_8 : decode cX11_held 8 = .ok (.iload_n 3, 1) := by decide +kernel
theorem dX11_held_9 : decode cX11_held 9 = .ok (.iconst 0, 1) := by decide +kernel
theorem dX11_held_10 : decode cX11_held 10 = .ok (.iconst 1, 1) := by decide +kernel
theorem dX11_held_11 : decode cX11_held 11 = .ok (.invokestatic 83, 3) := by decide +kernel
theorem dX11_held_14 : decode cX11_held 14 = .ok (.ifCond .ne 6, 3) := by decide +kernel
theorem dX11_held_17 : decode cX11_held 17 = .ok (.bipush (-2), 2) := by decide +kernel
theorem dX11_held_19 : decode cX11_held 19 = .ok (.ireturn, 1) := by decide +kernel
theorem dX11_held_20 : decode cX11_held 20 = .ok (.iconst 0, 1) := by decide +kernel
theorem dX11_held_21 : decode cX11_held 21 = .ok (.istore 4, 2) := by decide +kernel
theorem dX11_held_23 : decode cX11_held 23 = .ok (.iconst 0, 1) := by decide +kernel
theorem dX11_held_24 : decode cX11_held 24 = .ok (.istore 5, 2) := by decide +kernel
theorem dX11_held_26 : decode cX11_held 26 = .ok (.iload 5, 2) := by decide +kernel
theorem dX11_held_28 : decode cX11_held 28 = .ok (.bipush 6, 2) := by decide +kernel
theorem dX11_held_30 : decode cX11_held 30 = .ok (.if_icmp .ge 106, 3) := by decide +kernel
theorem dX11_held_33 : decode cX11_held 33 = .ok (.aload_n 0, 1) := by decide +kernel
theorem dX11_held_34 : decode cX11_held 34 = .ok (.getfield 68, 3) := by decide +kernel
theorem dX11_held_37 : decode cX11_held 37 = .ok (.iload 5, 2) := by decide +kernel
theorem dX11_held_39 : decode cX11_held 39 = .ok (.invokevirtual 237, 3) := by decide +kernel
theorem dX11_held_42 : decode cX11_held 42 = .ok (.ifCond .eq 88, 3) := by decide +kernel
theorem dX11_held_45 : decode cX11_held 45 = .ok (.aload_n 0, 1) := by decide +kernel
theorem dX11_held_46 : decode cX11_held 46 = .ok (.iload 5, 2) := by decide +kernel
theorem dX11_held_48 : decode cX11_held 48 = .ok (.iconst (-1), 1) := by decide +kernel
theorem dX11_held_49 : decode cX11_held 49 = .ok (.aload_n 0, 1) := by decide +kernel
theorem dX11_held_50 : decode cX11_held 50 = .ok (.getfield 68, 3) := by decide +kernel
theorem dX11_held_53 : decode cX11_held 53 = .ok (.getfield 241, 3) := by decide +kernel
theorem dX11_held_56 : decode cX11_held 56 = .ok (.iload 5, 2) := by decide +kernel
theorem dX11_held_58 : decode cX11_held 58 = .ok (.iaload, 1) := by decide +kernel
theorem dX11_held_59 : decode cX11_held 59 = .ok (.aload_n 0, 1) := by decide +kernel
theorem dX11_held_60 : decode cX11_held 60 = .ok (.getfield 68, 3) := by decide +kernel
theorem dX11_held_63 : decode cX11_held 63 = .ok (.getfield 244, 3) := by decide +kernel
theorem dX11_held_66 : decode cX11_held 66 = .ok (.iload 5, 2) := by decide +kernel
theorem dX11_held_68 : decode cX11_held 68 = .ok (.iaload, 1) := by decide +kernel
theorem dX11_held_69 : decode cX11_held 69 = .ok (.invokevirtual 118, 3) := by decide +kernel
theorem dX11_held_72 : decode cX11_held 72 = .ok (.ifCond .eq 58, 3) := by decide +kernel
theorem dX11_held_75 : decode cX11_held 75 = .ok (.aload_n 0, 1) := by decide +kernel
theorem dX11_held_76 : decode cX11_held 76 = .ok (.getfield 68, 3) := by decide +kernel
theorem dX11_held_79 : decode cX11_held 79 = .ok (.getfield 247, 3) := by decide +kernel
theorem dX11_held_82 : decode cX11_held 82 = .ok (.iload 5, 2) := by decide +kernel
theorem dX11_held_84 : decode cX11_held 84 = .ok (.iaload, 1) := by decide +kernel
theorem dX11_held_85 : decode cX11_held 85 = .ok (.aload_n 0, 1) := by decide +kernel
theorem dX11_held_86 : decode cX11_held 86 = .ok (.getfield 26, 3) := by decide +kernel
theorem dX11_held_89 : decode cX11_held 89 = .ok (.getfield 129, 3) := by decide +kernel
theorem dX11_held_92 : decode cX11_held 92 = .ok (.aload_n 0, 1) := by decide +kernel
theorem dX11_held_93 : decode cX11_held 93 = .ok (.getfield 26, 3) := by decide +kernel
theorem dX11_held_96 : decode cX11_held 96 = .ok (.iload_n 1, 1) := by decide +kernel
theorem dX11_held_97 : decode cX11_held 97 = .ok (.iload_n 2, 1) := by decide +kernel
theorem dX11_held_98 : decode cX11_held 98 = .ok (.invokevirtual 132, 3) := by decide +kernel
theorem dX11_held_101 : decode cX11_held 101 = .ok (.invokestatic 83, 3) := by decide +kernel
theorem dX11_held_104 : decode cX11_held 104 = .ok (.istore 6, 2) := by decide +kernel
theorem dX11_held_106 : decode cX11_held 106 = .ok (.iload 4, 2) := by decide +kernel
theorem dX11_held_108 : decode cX11_held 108 = .ok (.iload 6, 2) := by decide +kernel
theorem dX11_held_110 : decode cX11_held 110 = .ok (.iload_n 3, 1) := by decide +kernel
theorem dX11_held_111 : decode cX11_held 111 = .ok (.ifCond .ne 7, 3) := by decide +kernel
theorem dX11_held_114 : decode cX11_held 114 = .ok (.iconst 1, 1) := by decide +kernel
theorem dX11_held_115 : decode cX11_held 115 = .ok (.goto 4, 3) := by decide +kernel
theorem dX11_held_118 : decode cX11_held 118 = .ok (.iconst 0, 1) := by decide +kernel
theorem dX11_held_119 : decode cX11_held 119 = .ok (.if_icmp .ne 7, 3) := by decide +kernel
theorem dX11_held_122 : decode cX11_held 122 = .ok (.iconst 1, 1) := by decide +kernel
theorem dX11_held_123 : decode cX11_held 123 = .ok (.goto 4, 3) := by decide +kernel
theorem dX11_held_126 : decode cX11_held 126 = .ok (.iconst 0, 1) := by decide +kernel
theorem dX11_held_127 : decode cX11_held 127 = .ok (.iadd, 1) := by decide +kernel
theorem dX11_held_128 : decode cX11_held 128 = .ok (.istore 4, 2) := by decide +kernel
theorem dX11_held_130 : decode cX11_held 130 = .ok (.iinc 5 1, 3) := by decide +kernel
theorem dX11_held_133 : decode cX11_held 133 = .ok (.goto (-107), 3) := by decide +kernel
theorem dX11_held_136 : decode cX11_held 136 = .ok (.iload 4, 2) := by decide +kernel
theorem dX11_held_138 : decode cX11_held 138 = .ok (.ireturn, 1) := by decide +kernel
theorem dX11_sign_0 : decode cX11_sign 0 = .ok (.iload_n 1, 1) := by decide +kernel
theorem dX11_sign_1 : decode cX11_sign 1 = .ok (.iconst 0, 1) := by decide +kernel
theorem dX11_sign_2 : decode cX11_sign 2 = .ok (.iconst 2, 1) := by decide +kernel
theorem dX11_sign_3 : decode cX11_sign 3 = .ok (.invokestatic 83, 3) := by decide +kernel
theorem dX11_sign_6 : decode cX11_sign 6 = .ok (.ifCond .ne 6, 3) := by decide +kernel
theorem dX11_sign_9 : decode cX11_sign 9 = .ok (.bipush (-2), 2) := by decide +kernel
theorem dX11_sign_11 : decode cX11_sign 11 = .ok (.ireturn, 1) := by decide +kernel
theorem dX11_sign_12 : decode cX11_sign 12 = .ok (.iload_n 1, 1) := by decide +kernel
theorem dX11_sign_13 : decode cX11_sign 13 = .ok (.ifCond .ne 22, 3) := by decide +kernel
theorem dX11_sign_16 : decode cX11_sign 16 = .ok (.aload_n 0, 1) := by decide +kernel
theorem dX11_sign_17 : decode cX11_sign 17 = .ok (.getfield 75, 3) := by decide +kernel
theorem dX11_sign_20 : decode cX11_sign 20 = .ok (.getfield 250, 3) := by decide +kernel
theorem dX11_sign_23 : decode cX11_sign 23 = .ok (.getfield 253, 3) := by decide +kernel
theorem dX11_sign_26 : decode cX11_sign 26 = .ok (.ifCond .le 7, 3) := by decide +kernel
theorem dX11_sign_29 : decode cX11_sign 29 = .ok (.iconst 1, 1) := by decide +kernel
theorem dX11_sign_30 : decode cX11_sign 30 = .ok (.goto 4, 3) := by decide +kernel
theorem dX11_sign_33 : decode cX11_sign 33 = .ok (.iconst 0, 1) := by decide +kernel
theorem dX11_sign_34 : decode cX11_sign 34 = .ok (.ireturn, 1) := by decide +kernel
theorem dX11_sign_35 : decode cX11_sign 35 = .ok (.iload_n 1, 1) := by decide +kernel
theorem dX11_sign_36 : decode cX11_sign 36 = .ok (.iconst 1, 1) := by decide +kernel
theorem dX11_sign_37 : decode cX11_sign 37 = .ok (.if_icmp .ne 16, 3) := by decide +kernel
theorem dX11_sign_40 : decode cX11_sign 40 = .ok (.aload_n 0, 1) := by decide +kernel
theorem dX11_sign_41 : decode cX11_sign 41 = .ok (.getfield 75, 3) := by decide +kernel
theorem dX11_sign_44 : decode cX11_sign 44 = .ok (.getfield 250, 3) := by decide +kernel
theorem dX11_sign_47 : decode cX11_sign 47 = .ok (.getfield 253, 3) := by decide +kernel
theorem dX11_sign_50 : decode cX11_sign 50 = .ok (.goto 13, 3) := by decide +kernel
theorem dX11_sign_53 : decode cX11_sign 53 = .ok (.aload_n 0, 1) := by decide +kernel
theorem dX11_sign_54 : decode cX11_sign 54 = .ok (.getfield 75, 3) := by decide +kernel
theorem dX11_sign_57 : decode cX11_sign 57 = .ok (.getfield 256, 3) := by decide +kernel
theorem dX11_sign_60 : decode cX11_sign 60 = .ok (.getfield 253, 3) := by decide +kernel
theorem dX11_sign_63 : decode cX11_sign 63 = .ok (.ireturn, 1) := by decide +kernel
theorem dX11_limb_0 : decode cX11_limb 0 = .ok (.iload_n 1, 1) := by decide +kernel
theorem dX11_limb_1 : decode cX11_limb 1 = .ok (.iconst 0, 1) := by decide +kernel
theorem dX11_limb_2 : decode cX11_limb 2 = .ok (.iconst 1, 1) := by decide +kernel
theorem dX11_limb_3 : decode cX11_limb 3 = .ok (.invokestatic 83, 3) := by decide +kernel
theorem dX11_limb_6 : decode cX11_limb 6 = .ok (.ifCond .eq 7, 3) := by decide +kernel
theorem dX11_limb_9 : decode cX11_limb 9 = .ok (.iload_n 2, 1) := by decide +kernel
theorem dX11_limb_10 : decode cX11_limb 10 = .ok (.ifCond .ge 6, 3) := by decide +kernel
theorem dX11_limb_13 : decode cX11_limb 13 = .ok (.bipush (-2), 2) := by decide +kernel
theorem dX11_limb_15 : decode cX11_limb 15 = .ok (.ireturn, 1) := by decide +kernel
theorem dX11_limb_16 : decode cX11_limb 16 = .ok (.iload_n 1, 1) := by decide +kernel
theorem dX11_limb_17 : decode cX11_limb 17 = .ok (.ifCond .ne 13, 3) := by decide +kernel
theorem dX11_limb_20 : decode cX11_limb 20 = .ok (.aload_n 0, 1) := by decide +kernel
theorem dX11_limb_21 : decode cX11_limb 21 = .ok (.getfield 75, 3) := by decide +kernel
theorem dX11_limb_24 : decode cX11_limb 24 = .ok (.getfield 250, 3) := by decide +kernel
theorem dX11_limb_27 : decode cX11_limb 27 = .ok (.goto 10, 3) := by decide +kernel
theorem dX11_limb_30 : decode cX11_limb 30 = .ok (.aload_n 0, 1) := by decide +kernel
theorem dX11_limb_31 : decode cX11_limb 31 = .ok (.getfield 75, 3) := by decide +kernel
theorem dX11_limb_34 : decode cX11_limb 34 = .ok (.getfield 256, 3) := by decide +kernel
theorem dX11_limb_37 : decode cX11_limb 37 = .ok (.astore_n 3, 1) := by decide +kernel
theorem dX11_limb_38 : decode cX11_limb 38 = .ok (.iload_n 2, 1) := by decide +kernel
theorem dX11_limb_39 : decode cX11_limb 39 = .ok (.aload_n 3, 1) := by decide +kernel
theorem dX11_limb_40 : decode cX11_limb 40 = .ok (.getfield 253, 3) := by decide +kernel
theorem dX11_limb_43 : decode cX11_limb 43 = .ok (.if_icmp .ge 11, 3) := by decide +kernel
theorem dX11_limb_46 : decode cX11_limb 46 = .ok (.aload_n 3, 1) := by decide +kernel
theorem dX11_limb_47 : decode cX11_limb 47 = .ok (.iload_n 2, 1) := by decide +kernel
theorem dX11_limb_48 : decode cX11_limb 48 = .ok (.invokevirtual 258, 3) := by decide +kernel
theorem dX11_limb_51 : decode cX11_limb 51 = .ok (.goto 4, 3) := by decide +kernel
theorem dX11_limb_54 : decode cX11_limb 54 = .ok (.iconst (-1), 1) := by decide +kernel
theorem dX11_limb_55 : decode cX11_limb 55 = .ok (.ireturn, 1) := by decide +kernel
theorem dX11_count_0 : decode cX11_count 0 = .ok (.iload_n 1, 1) := by decide +kernel
theorem dX11_count_1 : decode cX11_count 1 = .ok (.tableswitch 75 0 4 #[35, 43, 51, 59, 67], 35) := by decide +kernel
theorem dX11_count_36 : decode cX11_count 36 = .ok (.aload_n 0, 1) := by decide +kernel
theorem dX11_count_37 : decode cX11_count 37 = .ok (.getfield 10, 3) := by decide +kernel
theorem dX11_count_40 : decode cX11_count 40 = .ok (.getfield 91, 3) := by decide +kernel
theorem dX11_count_43 : decode cX11_count 43 = .ok (.ireturn, 1) := by decide +kernel
theorem dX11_count_44 : decode cX11_count 44 = .ok (.aload_n 0, 1) := by decide +kernel
theorem dX11_count_45 : decode cX11_count 45 = .ok (.getfield 10, 3) := by decide +kernel
theorem dX11_count_48 : decode cX11_count 48 = .ok (.invokevirtual 261, 3) := by decide +kernel
theorem dX11_count_51 : decode cX11_count 51 = .ok (.ireturn, 1) := by decide +kernel
theorem dX11_count_52 : decode cX11_count 52 = .ok (.aload_n 0, 1) := by decide +kernel
theorem dX11_count_53 : decode cX11_count 53 = .ok (.getfield 40, 3) := by decide +kernel
theorem dX11_count_56 : decode cX11_count 56 = .ok (.getfield 264, 3) := by decide +kernel
theorem dX11_count_59 : decode cX11_count 59 = .ok (.ireturn, 1) := by decide +kernel
theorem dX11_count_60 : decode cX11_count 60 = .ok (.aload_n 0, 1) := by decide +kernel
theorem dX11_count_61 : decode cX11_count 61 = .ok (.getfield 54, 3) := by decide +kernel
theorem dX11_count_64 : decode cX11_count 64 = .ok (.getfield 265, 3) := by decide +kernel
theorem dX11_count_67 : decode cX11_count 67 = .ok (.ireturn, 1) := by decide +kernel
theorem dX11_count_68 : decode cX11_count 68 = .ok (.aload_n 0, 1) := by decide +kernel
theorem dX11_count_69 : decode cX11_count 69 = .ok (.getfield 68, 3) := by decide +kernel
theorem dX11_count_72 : decode cX11_count 72 = .ok (.invokevirtual 266, 3) := by decide +kernel
theorem dX11_count_75 : decode cX11_count 75 = .ok (.ireturn, 1) := by decide +kernel
theorem dX11_count_76 : decode cX11_count 76 = .ok (.bipush (-2), 2) := by decide +kernel
theorem dX11_count_78 : decode cX11_count 78 = .ok (.ireturn, 1) := by decide +kernel
theorem dX11_digest_0 : decode cX11_digest 0 = .ok (.ldc2_w 269, 3) := by decide +kernel
theorem dX11_digest_3 : decode cX11_digest 3 = .ok (.lstore_n 1, 1) := by decide +kernel
theorem dX11_digest_4 : decode cX11_digest 4 = .ok (.iconst 0, 1) := by decide +kernel
theorem dX11_digest_5 : decode cX11_digest 5 = .ok (.istore_n 3, 1) := by decide +kernel
theorem dX11_digest_6 : decode cX11_digest 6 = .ok (.iload_n 3, 1) := by decide +kernel
theorem dX11_digest_7 : decode cX11_digest 7 = .ok (.iconst 4, 1) := by decide +kernel
theorem dX11_digest_8 : decode cX11_digest 8 = .ok (.if_icmp .gt 22, 3) := by decide +kernel
theorem dX11_digest_11 : decode cX11_digest 11 = .ok (.ldc2_w 271, 3) := by decide +kernel
theorem dX11_digest_14 : decode cX11_digest 14 = .ok (.lload_n 1, 1) := by decide +kernel
theorem dX11_digest_15 : decode cX11_digest 15 = .ok (.lmul, 1) := by decide +kernel
theorem dX11_digest_16 : decode cX11_digest 16 = .ok (.aload_n 0, 1) := by decide +kernel
theorem dX11_digest_17 : decode cX11_digest 17 = .ok (.iload_n 3, 1) := by decide +kernel
theorem dX11_digest_18 : decode cX11_digest 18 = .ok (.invokevirtual 273, 3) := by decide +kernel
theorem dX11_digest_21 : decode cX11_digest 21 = .ok (.i2l, 1) := by decide +kernel
theorem dX11_digest_22 : decode cX11_digest 22 = .ok (.ladd, 1) := by decide +kernel
theorem dX11_digest_23 : decode cX11_digest 23 = .ok (.lstore_n 1, 1) := by decide +kernel
theorem dX11_digest_24 : decode cX11_digest 24 = .ok (.iinc 3 1, 3) := by decide +kernel
theorem dX11_digest_27 : decode cX11_digest 27 = .ok (.goto (-21), 3) := by decide +kernel
theorem dX11_digest_30 : decode cX11_digest 30 = .ok (.aload_n 0, 1) := by decide +kernel
theorem dX11_digest_31 : decode cX11_digest 31 = .ok (.getfield 10, 3) := by decide +kernel
theorem dX11_digest_34 : decode cX11_digest 34 = .ok (.lload_n 1, 1) := by decide +kernel
theorem dX11_digest_35 : decode cX11_digest 35 = .ok (.invokevirtual 276, 3) := by decide +kernel
theorem dX11_digest_38 : decode cX11_digest 38 = .ok (.lstore_n 1, 1) := by decide +kernel
theorem dX11_digest_39 : decode cX11_digest 39 = .ok (.iconst 0, 1) := by decide +kernel
theorem dX11_digest_40 : decode cX11_digest 40 = .ok (.istore_n 3, 1) := by decide +kernel
theorem dX11_digest_41 : decode cX11_digest 41 = .ok (.iload_n 3, 1) := by decide +kernel
theorem dX11_digest_42 : decode cX11_digest 42 = .ok (.bipush 6, 2) := by decide +kernel
theorem dX11_digest_44 : decode cX11_digest 44 = .ok (.if_icmp .ge 53, 3) := by decide +kernel
theorem dX11_digest_47 : decode cX11_digest 47 = .ok (.iconst 0, 1) := by decide +kernel
theorem dX11_digest_48 : decode cX11_digest 48 = .ok (.istore 4, 2) := by decide +kernel
theorem dX11_digest_50 : decode cX11_digest 50 = .ok (.iload 4, 2) := by decide +kernel
theorem dX11_digest_52 : decode cX11_digest 52 = .ok (.iconst 2, 1) := by decide +kernel
theorem dX11_digest_53 : decode cX11_digest 53 = .ok (.if_icmp .gt 24, 3) := by decide +kernel
theorem dX11_digest_56 : decode cX11_digest 56 = .ok (.ldc2_w 271, 3) := by decide +kernel
theorem dX11_digest_59 : decode cX11_digest 59 = .ok (.lload_n 1, 1) := by decide +kernel
theorem dX11_digest_60 : decode cX11_digest 60 = .ok (.lmul, 1) := by decide +kernel
theorem dX11_digest_61 : decode cX11_digest 61 = .ok (.aload_n 0, 1) := by decide +kernel
theorem dX11_digest_62 : decode cX11_digest 62 = .ok (.iload_n 3, 1) := by decide +kernel
theorem dX11_digest_63 : decode cX11_digest 63 = .ok (.iload 4, 2) := by decide +kernel
theorem dX11_digest_65 : decode cX11_digest 65 = .ok (.invokevirtual 280, 3) := by decide +kernel
theorem dX11_digest_68 : decode cX11_digest 68 = .ok (.i2l, 1) := by decide +kernel
theorem dX11_digest_69 : decode cX11_digest 69 = .ok (.ladd, 1) := by decide +kernel
theorem dX11_digest_70 : decode cX11_digest 70 = .ok (.lstore_n 1, 1) := by decide +kernel
theorem dX11_digest_71 : decode cX11_digest 71 = .ok (.iinc 4 1, 3) := by decide +kernel
theorem dX11_digest_74 : decode cX11_digest 74 = .ok (.goto (-24), 3) := by decide +kernel
theorem dX11_digest_77 : decode cX11_digest 77 = .ok (.ldc2_w 271, 3) := by decide +kernel
theorem dX11_digest_80 : decode cX11_digest 80 = .ok (.lload_n 1, 1) := by decide +kernel
theorem dX11_digest_81 : decode cX11_digest 81 = .ok (.lmul, 1) := by decide +kernel
theorem dX11_digest_82 : decode cX11_digest 82 = .ok (.aload_n 0, 1) := by decide +kernel
theorem dX11_digest_83 : decode cX11_digest 83 = .ok (.iload_n 3, 1) := by decide +kernel
theorem dX11_digest_84 : decode cX11_digest 84 = .ok (.iconst 0, 1) := by decide +kernel
theorem dX11_digest_85 : decode cX11_digest 85 = .ok (.invokevirtual 283, 3) := by decide +kernel
theorem dX11_digest_88 : decode cX11_digest 88 = .ok (.i2l, 1) := by decide +kernel
theorem dX11_digest_89 : decode cX11_digest 89 = .ok (.ladd, 1) := by decide +kernel
theorem dX11_digest_90 : decode cX11_digest 90 = .ok (.lstore_n 1, 1) := by decide +kernel
theorem dX11_digest_91 : decode cX11_digest 91 = .ok (.iinc 3 1, 3) := by decide +kernel
theorem dX11_digest_94 : decode cX11_digest 94 = .ok (.goto (-53), 3) := by decide +kernel
theorem dX11_digest_97 : decode cX11_digest 97 = .ok (.ldc2_w 271, 3) := by decide +kernel
theorem dX11_digest_100 : decode cX11_digest 100 = .ok (.lload_n 1, 1) := by decide +kernel
theorem dX11_digest_101 : decode cX11_digest 101 = .ok (.lmul, 1) := by decide +kernel
theorem dX11_digest_102 : decode cX11_digest 102 = .ok (.aload_n 0, 1) := by decide +kernel
theorem dX11_digest_103 : decode cX11_digest 103 = .ok (.getfield 79, 3) := by decide +kernel
theorem dX11_digest_106 : decode cX11_digest 106 = .ok (.i2l, 1) := by decide +kernel
theorem dX11_digest_107 : decode cX11_digest 107 = .ok (.ladd, 1) := by decide +kernel
theorem dX11_digest_108 : decode cX11_digest 108 = .ok (.lstore_n 1, 1) := by decide +kernel
theorem dX11_digest_109 : decode cX11_digest 109 = .ok (.aload_n 0, 1) := by decide +kernel
theorem dX11_digest_110 : decode cX11_digest 110 = .ok (.getfield 40, 3) := by decide +kernel
theorem dX11_digest_113 : decode cX11_digest 113 = .ok (.lload_n 1, 1) := by decide +kernel
theorem dX11_digest_114 : decode cX11_digest 114 = .ok (.invokevirtual 286, 3) := by decide +kernel
theorem dX11_digest_117 : decode cX11_digest 117 = .ok (.lstore_n 1, 1) := by decide +kernel
theorem dX11_digest_118 : decode cX11_digest 118 = .ok (.aload_n 0, 1) := by decide +kernel
theorem dX11_digest_119 : decode cX11_digest 119 = .ok (.getfield 54, 3) := by decide +kernel
theorem dX11_digest_122 : decode cX11_digest 122 = .ok (.lload_n 1, 1) := by decide +kernel
theorem dX11_digest_123 : decode cX11_digest 123 = .ok (.invokevirtual 287, 3) := by decide +kernel
theorem dX11_digest_126 : decode cX11_digest 126 = .ok (.lstore_n 1, 1) := by decide +kernel
theorem dX11_digest_127 : decode cX11_digest 127 = .ok (.aload_n 0, 1) := by decide +kernel
theorem dX11_digest_128 : decode cX11_digest 128 = .ok (.getfield 61, 3) := by decide +kernel
theorem dX11_digest_131 : decode cX11_digest 131 = .ok (.lload_n 1, 1) := by decide +kernel
theorem dX11_digest_132 : decode cX11_digest 132 = .ok (.invokevirtual 288, 3) := by decide +kernel
theorem dX11_digest_135 : decode cX11_digest 135 = .ok (.lstore_n 1, 1) := by decide +kernel
theorem dX11_digest_136 : decode cX11_digest 136 = .ok (.aload_n 0, 1) := by decide +kernel
theorem dX11_digest_137 : decode cX11_digest 137 = .ok (.getfield 68, 3) := by decide +kernel
theorem dX11_digest_140 : decode cX11_digest 140 = .ok (.lload_n 1, 1) := by decide +kernel
theorem dX11_digest_141 : decode cX11_digest 141 = .ok (.invokevirtual 289, 3) := by decide +kernel
theorem dX11_digest_144 : decode cX11_digest 144 = .ok (.lstore_n 1, 1) := by decide +kernel
theorem dX11_digest_145 : decode cX11_digest 145 = .ok (.iconst 0, 1) := by decide +kernel
theorem dX11_digest_146 : decode cX11_digest 146 = .ok (.istore_n 3, 1) := by decide +kernel
theorem dX11_digest_147 : decode cX11_digest 147 = .ok (.iload_n 3, 1) := by decide +kernel
theorem dX11_digest_148 : decode cX11_digest 148 = .ok (.iconst 2, 1) := by decide +kernel
theorem dX11_digest_149 : decode cX11_digest 149 = .ok (.if_icmp .gt 22, 3) := by decide +kernel
theorem dX11_digest_152 : decode cX11_digest 152 = .ok (.ldc2_w 271, 3) := by decide +kernel
theorem dX11_digest_155 : decode cX11_digest 155 = .ok (.lload_n 1, 1) := by decide +kernel
theorem dX11_digest_156 : decode cX11_digest 156 = .ok (.lmul, 1) := by decide +kernel
theorem dX11_digest_157 : decode cX11_digest 157 = .ok (.aload_n 0, 1) := by decide +kernel
theorem dX11_digest_158 : decode cX11_digest 158 = .ok (.iload_n 3, 1) := by decide +kernel
theorem dX11_digest_159 : decode cX11_digest 159 = .ok (.invokevirtual 290, 3) := by decide +kernel
theorem dX11_digest_162 : decode cX11_digest 162 = .ok (.i2l, 1) := by decide +kernel
theorem dX11_digest_163 : decode cX11_digest 163 = .ok (.ladd, 1) := by decide +kernel
theorem dX11_digest_164 : decode cX11_digest 164 = .ok (.lstore_n 1, 1) := by decide +kernel
theorem dX11_digest_165 : decode cX11_digest 165 = .ok (.iinc 3 1, 3) := by decide +kernel
theorem dX11_digest_168 : decode cX11_digest 168 = .ok (.goto (-21), 3) := by decide +kernel
theorem dX11_digest_171 : decode cX11_digest 171 = .ok (.aload_n 0, 1) := by decide +kernel
theorem dX11_digest_172 : decode cX11_digest 172 = .ok (.getfield 75, 3) := by decide +kernel
theorem dX11_digest_175 : decode cX11_digest 175 = .ok (.getfield 256, 3) := by decide +kernel
theorem dX11_digest_178 : decode cX11_digest 178 = .ok (.aload_n 0, 1) := by decide +kernel
theorem dX11_digest_179 : decode cX11_digest 179 = .ok (.getfield 75, 3) := by decide +kernel
theorem dX11_digest_182 : decode cX11_digest 182 = .ok (.getfield 250, 3) := by decide +kernel
theorem dX11_digest_185 : decode cX11_digest 185 = .ok (.lload_n 1, 1) := by decide +kernel
theorem dX11_digest_186 : decode cX11_digest 186 = .ok (.invokevirtual 293, 3) := by decide +kernel
theorem dX11_digest_189 : decode cX11_digest 189 = .ok (.invokevirtual 293, 3) := by decide +kernel
theorem dX11_digest_192 : decode cX11_digest 192 = .ok (.lreturn, 1) := by decide +kernel
theorem dX11_within_0 : decode cX11_within 0 = .ok (.iload_n 0, 1) := by decide +kernel
theorem dX11_within_1 : decode cX11_within 1 = .ok (.iload_n 1, 1) := by decide +kernel
theorem dX11_within_2 : decode cX11_within 2 = .ok (.if_icmp .lt 12, 3) := by decide +kernel
theorem dX11_within_5 : decode cX11_within 5 = .ok (.iload_n 0, 1) := by decide +kernel
theorem dX11_within_6 : decode cX11_within 6 = .ok (.iload_n 2, 1) := by decide +kernel
theorem dX11_within_7 : decode cX11_within 7 = .ok (.if_icmp .gt 7, 3) := by decide +kernel
theorem dX11_within_10 : decode cX11_within 10 = .ok (.iconst 1, 1) := by decide +kernel
theorem dX11_within_11 : decode cX11_within 11 = .ok (.goto 4, 3) := by decide +kernel
theorem dX11_within_14 : decode cX11_within 14 = .ok (.iconst 0, 1) := by decide +kernel
theorem dX11_within_15 : decode cX11_within 15 = .ok (.ireturn, 1) := by decide +kernel
theorem dX11_isScheme_0 : decode cX11_isScheme 0 = .ok (.iload_n 0, 1) := by decide +kernel
theorem dX11_isScheme_1 : decode cX11_isScheme 1 = .ok (.iconst 0, 1) := by decide +kernel
theorem dX11_isScheme_2 : decode cX11_isScheme 2 = .ok (.iconst 5, 1) := by decide +kernel
theorem dX11_isScheme_3 : decode cX11_isScheme 3 = .ok (.invokestatic 83, 3) := by decide +kernel
theorem dX11_isScheme_6 : decode cX11_isScheme 6 = .ok (.ifCond .eq 28, 3) := by decide +kernel
theorem dX11_isScheme_9 : decode cX11_isScheme 9 = .ok (.iload_n 1, 1) := by decide +kernel
theorem dX11_isScheme_10 : decode cX11_isScheme 10 = .ok (.iconst 0, 1) := by decide +kernel
theorem dX11_isScheme_11 : decode cX11_isScheme 11 = .ok (.sipush 9999, 3) := by decide +kernel
theorem dX11_isScheme_14 : decode cX11_isScheme 14 = .ok (.invokestatic 83, 3) := by decide +kernel
theorem dX11_isScheme_17 : decode cX11_isScheme 17 = .ok (.ifCond .eq 17, 3) := by decide +kernel
theorem dX11_isScheme_20 : decode cX11_isScheme 20 = .ok (.iload_n 2, 1) := by decide +kernel
theorem dX11_isScheme_21 : decode cX11_isScheme 21 = .ok (.iconst 1, 1) := by decide +kernel
theorem dX11_isScheme_22 : decode cX11_isScheme 22 = .ok (.bipush 99, 2) := by decide +kernel
theorem dX11_isScheme_24 : decode cX11_isScheme 24 = .ok (.invokestatic 83, 3) := by decide +kernel
theorem dX11_isScheme_27 : decode cX11_isScheme 27 = .ok (.ifCond .eq 7, 3) := by decide +kernel
theorem dX11_isScheme_30 : decode cX11_isScheme 30 = .ok (.iconst 1, 1) := by decide +kernel
theorem dX11_isScheme_31 : decode cX11_isScheme 31 = .ok (.goto 4, 3) := by decide +kernel
theorem dX11_isScheme_34 : decode cX11_isScheme 34 = .ok (.iconst 0, 1) := by decide +kernel
theorem dX11_isScheme_35 : decode cX11_isScheme 35 = .ok (.ireturn, 1) := by decide +kernel
theorem dX11_isPart_0 : decode cX11_isPart 0 = .ok (.iload_n 0, 1) := by decide +kernel
theorem dX11_isPart_1 : decode cX11_isPart 1 = .ok (.ifCond .le 19, 3) := by decide +kernel
theorem dX11_isPart_4 : decode cX11_isPart 4 = .ok (.iload_n 0, 1) := by decide +kernel
theorem dX11_isPart_5 : decode cX11_isPart 5 = .ok (.iload_n 1, 1) := by decide +kernel
theorem dX11_isPart_6 : decode cX11_isPart 6 = .ok (.if_icmp .gt 14, 3) := by decide +kernel
theorem dX11_isPart_9 : decode cX11_isPart 9 = .ok (.iload_n 1, 1) := by decide +kernel
theorem dX11_isPart_10 : decode cX11_isPart 10 = .ok (.sipush 1000, 3) := by decide +kernel
theorem dX11_isPart_13 : decode cX11_isPart 13 = .ok (.if_icmp .gt 7, 3) := by decide +kernel
theorem dX11_isPart_16 : decode cX11_isPart 16 = .ok (.iconst 1, 1) := by decide +kernel
theorem dX11_isPart_17 : decode cX11_isPart 17 = .ok (.goto 4, 3) := by decide +kernel
theorem dX11_isPart_20 : decode cX11_isPart 20 = .ok (.iconst 0, 1) := by decide +kernel
theorem dX11_isPart_21 : decode cX11_isPart 21 = .ok (.ireturn, 1) := by decide +kernel
theorem dX11_stepsOf_0 : decode cX11_stepsOf 0 = .ok (.iconst 0, 1) := by decide +kernel
theorem dX11_stepsOf_1 : decode cX11_stepsOf 1 = .ok (.istore_n 1, 1) := by decide +kernel
theorem dX11_stepsOf_2 : decode cX11_stepsOf 2 = .ok (.iconst 1, 1) := by decide +kernel
theorem dX11_stepsOf_3 : decode cX11_stepsOf 3 = .ok (.istore_n 2, 1) := by decide +kernel
theorem dX11_stepsOf_4 : decode cX11_stepsOf 4 = .ok (.iload_n 2, 1) := by decide +kernel
theorem dX11_stepsOf_5 : decode cX11_stepsOf 5 = .ok (.bipush 9, 2) := by decide +kernel
theorem dX11_stepsOf_7 : decode cX11_stepsOf 7 = .ok (.if_icmp .gt 21, 3) := by decide +kernel
theorem dX11_stepsOf_10 : decode cX11_stepsOf 10 = .ok (.iload_n 0, 1) := by decide +kernel
theorem dX11_stepsOf_11 : decode cX11_stepsOf 11 = .ok (.iload_n 2, 1) := by decide +kernel
theorem dX11_stepsOf_12 : decode cX11_stepsOf 12 = .ok (.irem, 1) := by decide +kernel
theorem dX11_stepsOf_13 : decode cX11_stepsOf 13 = .ok (.ifCond .ne 9, 3) := by decide +kernel
theorem dX11_stepsOf_16 : decode cX11_stepsOf 16 = .ok (.iload_n 1, 1) := by decide +kernel
theorem dX11_stepsOf_17 : decode cX11_stepsOf 17 = .ok (.iconst 1, 1) := by decide +kernel
theorem dX11_stepsOf_18 : decode cX11_stepsOf 18 = .ok (.iload_n 2, 1) := by decide +kernel
theorem dX11_stepsOf_19 : decode cX11_stepsOf 19 = .ok (.ishl, 1) := by decide +kernel
theorem dX11_stepsOf_20 : decode cX11_stepsOf 20 = .ok (.ior, 1) := by decide +kernel
theorem dX11_stepsOf_21 : decode cX11_stepsOf 21 = .ok (.istore_n 1, 1) := by decide +kernel
theorem dX11_stepsOf_22 : decode cX11_stepsOf 22 = .ok (.iinc 2 1, 3) := by decide +kernel
theorem dX11_stepsOf_25 : decode cX11_stepsOf 25 = .ok (.goto (-21), 3) := by decide +kernel
theorem dX11_stepsOf_28 : decode cX11_stepsOf 28 = .ok (.iload_n 1, 1) := by decide +kernel
theorem dX11_stepsOf_29 : decode cX11_stepsOf 29 = .ok (.ireturn, 1) := by decide +kernel
theorem dX11_placeOf_0 : decode cX11_placeOf 0 = .ok (.iload_n 2, 1) := by decide +kernel
theorem dX11_placeOf_1 : decode cX11_placeOf 1 = .ok (.ifCond .le 11, 3) := by decide +kernel
theorem dX11_placeOf_4 : decode cX11_placeOf 4 = .ok (.iload_n 0, 1) := by decide +kernel
theorem dX11_placeOf_5 : decode cX11_placeOf 5 = .ok (.iload_n 1, 1) := by decide +kernel
theorem dX11_placeOf_6 : decode cX11_placeOf 6 = .ok (.isub, 1) := by decide +kernel
theorem dX11_placeOf_7 : decode cX11_placeOf 7 = .ok (.iload_n 2, 1) := by decide +kernel
theorem dX11_placeOf_8 : decode cX11_placeOf 8 = .ok (.idiv, 1) := by decide +kernel
theorem dX11_placeOf_9 : decode cX11_placeOf 9 = .ok (.goto 4, 3) := by decide +kernel
theorem dX11_placeOf_12 : decode cX11_placeOf 12 = .ok (.iconst 0, 1) := by decide +kernel
theorem dX11_placeOf_13 : decode cX11_placeOf 13 = .ok (.ireturn, 1) := by decide +kernel
theorem dX11_commonMeasure_0 : decode cX11_commonMeasure 0 = .ok (.lload_n 0, 1) := by decide +kernel
theorem dX11_commonMeasure_1 : decode cX11_commonMeasure 1 = .ok (.lstore 4, 2) := by decide +kernel
theorem dX11_commonMeasure_3 : decode cX11_commonMeasure 3 = .ok (.lload_n 2, 1) := by decide +kernel
theorem dX11_commonMeasure_4 : decode cX11_commonMeasure 4 = .ok (.lstore 6, 2) := by decide +kernel
theorem dX11_commonMeasure_6 : decode cX11_commonMeasure 6 = .ok (.iconst 0, 1) := by decide +kernel
theorem dX11_commonMeasure_7 : decode cX11_commonMeasure 7 = .ok (.istore 8, 2) := by decide +kernel
theorem dX11_commonMeasure_9 : decode cX11_commonMeasure 9 = .ok (.iload 8, 2) := by decide +kernel
theorem dX11_commonMeasure_11 : decode cX11_commonMeasure 11 = .ok (.sipush 200, 3) := by decide +kernel
theorem dX11_commonMeasure_14 : decode cX11_commonMeasure 14 = .ok (.if_icmp .ge 31, 3) := by decide +kernel
theorem dX11_commonMeasure_17 : decode cX11_commonMeasure 17 = .ok (.lload 6, 2) := by decide +kernel
theorem dX11_commonMeasure_19 : decode cX11_commonMeasure 19 = .ok (.lconst 0, 1) := by decide +kernel
theorem dX11_commonMeasure_20 : decode cX11_commonMeasure 20 = .ok (.lcmp, 1) := by decide +kernel
theorem dX11_commonMeasure_21 : decode cX11_commonMeasure 21 = .ok (.ifCond .eq 24, 3) := by decide +kernel
theorem dX11_commonMeasure_24 : decode cX11_commonMeasure 24 = .ok (.lload 4, 2) := by decide +kernel
theorem dX11_commonMeasure_26 : decode cX11_commonMeasure 26 = .ok (.lload 6, 2) := by decide +kernel
theorem dX11_commonMeasure_28 : decode cX11_commonMeasure 28 = .ok (.lrem, 1) := by decide +kernel
theorem dX11_commonMeasure_29 : decode cX11_commonMeasure 29 = .ok (.lstore 9, 2) := by decide +kernel
theorem dX11_commonMeasure_31 : decode cX11_commonMeasure 31 = .ok (.lload 6, 2) := by decide +kernel
theorem dX11_commonMeasure_33 : decode cX11_commonMeasure 33 = .ok (.lstore 4, 2) := by decide +kernel
theorem dX11_commonMeasure_35 : decode cX11_commonMeasure 35 = .ok (.lload 9, 2) := by decide +kernel
theorem dX11_commonMeasure_37 : decode cX11_commonMeasure 37 = .ok (.lstore 6, 2) := by decide +kernel
theorem dX11_commonMeasure_39 : decode cX11_commonMeasure 39 = .ok (.iinc 8 1, 3) := by decide +kernel
theorem dX11_commonMeasure_42 : decode cX11_commonMeasure 42 = .ok (.goto (-33), 3) := by decide +kernel
theorem dX11_commonMeasure_45 : decode cX11_commonMeasure 45 = .ok (.lload 4, 2) := by decide +kernel
theorem dX11_commonMeasure_47 : decode cX11_commonMeasure 47 = .ok (.lreturn, 1) := by decide +kernel
theorem dX11_weigh_0 : decode cX11_weigh 0 = .ok (.aload_n 0, 1) := by decide +kernel
theorem dX11_weigh_1 : decode cX11_weigh 1 = .ok (.getfield 10, 3) := by decide +kernel
theorem dX11_weigh_4 : decode cX11_weigh 4 = .ok (.iload_n 1, 1) := by decide +kernel
theorem dX11_weigh_5 : decode cX11_weigh 5 = .ok (.iload_n 2, 1) := by decide +kernel
theorem dX11_weigh_6 : decode cX11_weigh 6 = .ok (.aload_n 0, 1) := by decide +kernel
theorem dX11_weigh_7 : decode cX11_weigh 7 = .ok (.getfield 19, 3) := by decide +kernel
theorem dX11_weigh_10 : decode cX11_weigh 10 = .ok (.invokevirtual 98, 3) := by decide +kernel
theorem dX11_weigh_13 : decode cX11_weigh 13 = .ok (.aload_n 0, 1) := by decide +kernel
theorem dX11_weigh_14 : decode cX11_weigh 14 = .ok (.getfield 19, 3) := by decide +kernel
theorem dX11_weigh_17 : decode cX11_weigh 17 = .ok (.iload_n 3, 1) := by decide +kernel
theorem dX11_weigh_18 : decode cX11_weigh 18 = .ok (.iload 4, 2) := by decide +kernel
theorem dX11_weigh_20 : decode cX11_weigh 20 = .ok (.invokevirtual 114, 3) := by decide +kernel
theorem dX11_weigh_23 : decode cX11_weigh 23 = .ok (.ifCond .eq 20, 3) := by decide +kernel
theorem dX11_weigh_26 : decode cX11_weigh 26 = .ok (.aload_n 0, 1) := by decide +kernel
theorem dX11_weigh_27 : decode cX11_weigh 27 = .ok (.getfield 19, 3) := by decide +kernel
theorem dX11_weigh_30 : decode cX11_weigh 30 = .ok (.iload_n 3, 1) := by decide +kernel
theorem dX11_weigh_31 : decode cX11_weigh 31 = .ok (.iload 4, 2) := by decide +kernel
theorem dX11_weigh_33 : decode cX11_weigh 33 = .ok (.invokevirtual 294, 3) := by decide +kernel
theorem dX11_weigh_36 : decode cX11_weigh 36 = .ok (.aload_n 0, 1) := by decide +kernel
theorem dX11_weigh_37 : decode cX11_weigh 37 = .ok (.getfield 79, 3) := by decide +kernel
theorem dX11_weigh_40 : decode cX11_weigh 40 = .ok (.if_icmp .lt 5, 3) := by decide +kernel
theorem dX11_weigh_43 : decode cX11_weigh 43 = .ok (.iconst 0, 1) := by decide +kernel
theorem dX11_weigh_44 : decode cX11_weigh 44 = .ok (.ireturn, 1) := by decide +kernel
theorem dX11_weigh_45 : decode cX11_weigh 45 = .ok (.aload_n 0, 1) := by decide +kernel
theorem dX11_weigh_46 : decode cX11_weigh 46 = .ok (.getfield 26, 3) := by decide +kernel
theorem dX11_weigh_49 : decode cX11_weigh 49 = .ok (.aload_n 0, 1) := by decide +kernel
theorem dX11_weigh_50 : decode cX11_weigh 50 = .ok (.getfield 19, 3) := by decide +kernel
theorem dX11_weigh_53 : decode cX11_weigh 53 = .ok (.getfield 102, 3) := by decide +kernel
theorem dX11_weigh_56 : decode cX11_weigh 56 = .ok (.aload_n 0, 1) := by decide +kernel
theorem dX11_weigh_57 : decode cX11_weigh 57 = .ok (.getfield 19, 3) := by decide +kernel
theorem dX11_weigh_60 : decode cX11_weigh 60 = .ok (.iload_n 3, 1) := by decide +kernel
theorem dX11_weigh_61 : decode cX11_weigh 61 = .ok (.iload 4, 2) := by decide +kernel
theorem dX11_weigh_63 : decode cX11_weigh 63 = .ok (.invokevirtual 294, 3) := by decide +kernel
theorem dX11_weigh_66 : decode cX11_weigh 66 = .ok (.iconst 1, 1) := by decide +kernel
theorem dX11_weigh_67 : decode cX11_weigh 67 = .ok (.iadd, 1) := by decide +kernel
theorem dX11_weigh_68 : decode cX11_weigh 68 = .ok (.aload_n 0, 1) := by decide +kernel
theorem dX11_weigh_69 : decode cX11_weigh 69 = .ok (.getfield 79, 3) := by decide +kernel
theorem dX11_weigh_72 : decode cX11_weigh 72 = .ok (.invokevirtual 297, 3) := by decide +kernel
theorem dX11_weigh_75 : decode cX11_weigh 75 = .ok (.iconst 1, 1) := by decide +kernel
theorem dX11_weigh_76 : decode cX11_weigh 76 = .ok (.ireturn, 1) := by decide +kernel
theorem dX12_in_0 : decode cX12_in 0 = .ok (.lload_n 0, 1) := by decide +kernel
theorem dX12_in_1 : decode cX12_in 1 = .ok (.lload_n 2, 1) := by decide +kernel
theorem dX12_in_2 : decode cX12_in 2 = .ok (.lcmp, 1) := by decide +kernel
theorem dX12_in_3 : decode cX12_in 3 = .ok (.ifCond .lt 14, 3) := by decide +kernel
theorem dX12_in_6 : decode cX12_in 6 = .ok (.lload_n 0, 1) := by decide +kernel
theorem dX12_in_7 : decode cX12_in 7 = .ok (.lload 4, 2) := by decide +kernel
theorem dX12_in_9 : decode cX12_in 9 = .ok (.lcmp, 1) := by decide +kernel
theorem dX12_in_10 : decode cX12_in 10 = .ok (.ifCond .gt 7, 3) := by decide +kernel
theorem dX12_in_13 : decode cX12_in 13 = .ok (.iconst 1, 1) := by decide +kernel
theorem dX12_in_14 : decode cX12_in 14 = .ok (.goto 4, 3) := by decide +kernel
theorem dX12_in_17 : decode cX12_in 17 = .ok (.iconst 0, 1) := by decide +kernel
theorem dX12_in_18 : decode cX12_in 18 = .ok (.ireturn, 1) := by decide +kernel
theorem dX12_init_0 : decode cX12_init 0 = .ok (.aload_n 0, 1) := by decide +kernel
theorem dX12_init_1 : decode cX12_init 1 = .ok (.invokespecial 1, 3) := by decide +kernel
theorem dX12_init_4 : decode cX12_init 4 = .ok (.aload_n 0, 1) := by decide +kernel
theorem dX12_init_5 : decode cX12_init 5 = .ok (.sipush 396, 3) := by decide +kernel
theorem dX12_init_8 : decode cX12_init 8 = .ok (.newarray .int, 2) := by decide +kernel
theorem dX12_init_10 : decode cX12_init 10 = .ok (.putfield 7, 3) := by decide +kernel
theorem dX12_init_13 : decode cX12_init 13 = .ok (.aload_n 0, 1) := by decide +kernel
theorem dX12_init_14 : decode cX12_init 14 = .ok (.bipush 6, 2) := by decide +kernel
theorem dX12_init_16 : decode cX12_init 16 = .ok (.newarray .int, 2) := by decide +kernel
theorem dX12_init_18 : decode cX12_init 18 = .ok (.putfield 13, 3) := by decide +kernel
theorem dX12_init_21 : decode cX12_init 21 = .ok (.aload_n 0, 1) := by decide +kernel
theorem dX12_init_22 : decode cX12_init 22 = .ok (.sipush 360, 3) := by decide +kernel
theorem dX12_init_25 : decode cX12_init 25 = .ok (.newarray .int, 2) := by decide +kernel
theorem dX12_init_27 : decode cX12_init 27 = .ok (.putfield 16, 3) := by decide +kernel
theorem dX12_init_30 : decode cX12_init 30 = .ok (.aload_n 0, 1) := by decide +kernel
theorem dX12_init_31 : decode cX12_init 31 = .ok (.bipush 60, 2) := by decide +kernel
theorem dX12_init_33 : decode cX12_init 33 = .ok (.newarray .int, 2) := by decide +kernel
theorem dX12_init_35 : decode cX12_init 35 = .ok (.putfield 19, 3) := by decide +kernel
theorem dX12_init_38 : decode cX12_init 38 = .ok (.aload_n 0, 1) := by decide +kernel
theorem dX12_init_39 : decode cX12_init 39 = .ok (.sipush 5168, 3) := by decide +kernel
theorem dX12_init_42 : decode cX12_init 42 = .ok (.newarray .int, 2) := by decide +kernel
theorem dX12_init_44 : decode cX12_init 44 = .ok (.putfield 22, 3) := by decide +kernel
theorem dX12_init_47 : decode cX12_init 47 = .ok (.aload_n 0, 1) := by decide +kernel
theorem dX12_init_48 : decode cX12_init 48 = .ok (.sipush 5168, 3) := by decide +kernel
theorem dX12_init_51 : decode cX12_init 51 = .ok (.newarray .int, 2) := by decide +kernel
theorem dX12_init_53 : decode cX12_init 53 = .ok (.putfield 25, 3) := by decide +kernel
theorem dX12_init_56 : decode cX12_init 56 = .ok (.aload_n 0, 1) := by decide +kernel
theorem dX12_init_57 : decode cX12_init 57 = .ok (.bipush 48, 2) := by decide +kernel
theorem dX12_init_59 : decode cX12_init 59 = .ok (.newarray .int, 2) := by decide +kernel
theorem dX12_init_61 : decode cX12_init 61 = .ok (.putfield 28, 3) := by decide +kernel
theorem dX12_init_64 : decode cX12_init 64 = .ok (.aload_n 0, 1) := by decide +kernel
theorem dX12_init_65 : decode cX12_init 65 = .ok (.bipush 6, 2) := by decide +kernel
theorem dX12_init_67 : decode cX12_init 67 = .ok (.newarray .int, 2) := by decide +kernel
theorem dX12_init_69 : decode cX12_init 69 = .ok (.putfield 31, 3) := by decide +kernel
theorem dX12_init_72 : decode cX12_init 72 = .ok (.aload_n 0, 1) := by decide +kernel
theorem dX12_init_73 : decode cX12_init 73 = .ok (.bipush 6, 2) := by decide +kernel
theorem dX12_init_75 : decode cX12_init 75 = .ok (.newarray .int, 2) := by decide +kernel
theorem dX12_init_77 : decode cX12_init 77 = .ok (.putfield 34, 3) := by decide +kernel
theorem dX12_init_80 : decode cX12_init 80 = .ok (.aload_n 0, 1) := by decide +kernel
theorem dX12_init_81 : decode cX12_init 81 = .ok (.bipush 60, 2) := by decide +kernel
theorem dX12_init_83 : decode cX12_init 83 = .ok (.newarray .int, 2) := by decide +kernel
theorem dX12_init_85 : decode cX12_init 85 = .ok (.putfield 37, 3) := by decide +kernel
theorem dX12_init_88 : decode cX12_init 88 = .ok (.aload_n 0, 1) := by decide +kernel
theorem dX12_init_89 : decode cX12_init 89 = .ok (.sipush 403, 3) := by decide +kernel
theorem dX12_init_92 : decode cX12_init 92 = .ok (.newarray .long, 2) := by decide +kernel
theorem dX12_init_94 : decode cX12_init 94 = .ok (.putfield 40, 3) := by decide +kernel
theorem dX12_init_97 : decode cX12_init 97 = .ok (.aload_n 0, 1) := by decide +kernel
theorem dX12_init_98 : decode cX12_init 98 = .ok (.sipush 403, 3) := by decide +kernel
theorem dX12_init_101 : decode cX12_init 101 = .ok (.newarray .long, 2) := by decide +kernel
theorem dX12_init_103 : decode cX12_init 103 = .ok (.putfield 44, 3) := by decide +kernel
theorem dX12_init_106 : decode cX12_init 106 = .ok (.aload_n 0, 1) := by decide +kernel
theorem dX12_init_107 : decode cX12_init 107 = .ok (.bipush 13, 2) := by decide +kernel
theorem dX12_init_109 : decode cX12_init 109 = .ok (.newarray .long, 2) := by decide +kernel
theorem dX12_init_111 : decode cX12_init 111 = .ok (.putfield 47, 3) := by decide +kernel
theorem dX12_init_114 : decode cX12_init 114 = .ok (.aload_n 0, 1) := by decide +kernel
theorem dX12_init_115 : decode cX12_init 115 = .ok (.bipush 60, 2) := by decide +kernel
theorem dX12_init_117 : decode cX12_init 117 = .ok (.newarray .int, 2) := by decide +kernel
theorem dX12_init_119 : decode cX12_init 119 = .ok (.putfield 50, 3) := by decide +kernel
theorem dX12_init_122 : decode cX12_init 122 = .ok (.aload_n 0, 1) := by decide +kernel
theorem dX12_init_123 : decode cX12_init 123 = .ok (.bipush 8, 2) := by decide +kernel
theorem dX12_init_125 : decode cX12_init 125 = .ok (.newarray .int, 2) := by decide +kernel
theorem dX12_init_127 : decode cX12_init 127 = .ok (.putfield 53, 3) := by decide +kernel
theorem dX12_init_130 : decode cX12_init 130 = .ok (.aload_n 0, 1) := by decide +kernel
theorem dX12_init_131 : decode cX12_init 131 = .ok (.bipush 18, 2) := by decide +kernel
theorem dX12_init_133 : decode cX12_init 133 = .ok (.newarray .int, 2) := by decide +kernel
theorem dX12_init_135 : decode cX12_init 135 = .ok (.putfield 56, 3) := by decide +kernel
theorem dX12_init_138 : decode cX12_init 138 = .ok (.aload_n 0, 1) := by decide +kernel
theorem dX12_init_139 : decode cX12_init 139 = .ok (.sipush 150, 3) := by decide +kernel
theorem dX12_init_142 : decode cX12_init 142 = .ok (.putfield 59, 3) := by decide +kernel
theorem dX12_init_145 : decode cX12_init 145 = .ok (.iconst 0, 1) := by decide +kernel
theorem dX12_init_146 : decode cX12_init 146 = .ok (.istore_n 1, 1) := by decide +kernel
theorem dX12_init_147 : decode cX12_init 147 = .ok (.iload_n 1, 1) := by decide +kernel
theorem dX12_init_148 : decode cX12_init 148 = .ok (.iconst 4, 1) := by decide +kernel
theorem dX12_init_149 : decode cX12_init 149 = .ok (.if_icmp .ge 29, 3) := by decide +kernel
theorem dX12_init_152 : decode cX12_init 152 = .ok (.aload_n 0, 1) := by decide +kernel
theorem dX12_init_153 : decode cX12_init 153 = .ok (.getfield 53, 3) := by decide +kernel
theorem dX12_init_156 : decode cX12_init 156 = .ok (.iconst 2, 1) := by decide +kernel
theorem dX12_init_157 : decode cX12_init 157 = .ok (.iload_n 1, 1) := by decide +kernel
theorem dX12_init_158 : decode cX12_init 158 = .ok (.imul, 1) := by decide +kernel
theorem dX12_init_159 : decode cX12_init 159 = .ok (.iconst 1, 1) := by decide +kernel
theorem dX12_init_160 : decode cX12_init 160 = .ok (.iastore, 1) := by decide +kernel
theorem dX12_init_161 : decode cX12_init 161 = .ok (.aload_n 0, 1) := by decide +kernel
theorem dX12_init_162 : decode cX12_init 162 = .ok (.getfield 53, 3) := by decide +kernel
theorem dX12_init_165 : decode cX12_init 165 = .ok (.iconst 2, 1) := by decide +kernel
theorem dX12_init_166 : decode cX12_init 166 = .ok (.iload_n 1, 1) := by decide +kernel
theorem dX12_init_167 : decode cX12_init 167 = .ok (.imul, 1) := by decide +kernel
theorem dX12_init_168 : decode cX12_init 168 = .ok (.iconst 1, 1) := by decide +kernel
theorem dX12_init_169 : decode cX12_init 169 = .ok (.iadd, 1) := by decide +kernel
theorem dX12_init_170 : decode cX12_init 170 = .ok (.iconst 1, 1) := by decide +kernel
theorem dX12_init_171 : decode cX12_init 171 = .ok (.iastore, 1) := by decide +kernel
theorem dX12_init_172 : decode cX12_init 172 = .ok (.iinc 1 1, 3) := by decide +kernel
theorem dX12_init_175 : decode cX12_init 175 = .ok (.goto (-28), 3) := by decide +kernel
theorem dX12_init_178 : decode cX12_init 178 = .ok (.iconst 0, 1) := by decide +kernel
theorem dX12_init_179 : decode cX12_init 179 = .ok (.istore_n 1, 1) := by decide +kernel
theorem dX12_init_180 : decode cX12_init 180 = .ok (.iload_n 1, 1) := by decide +kernel
theorem dX12_init_181 : decode cX12_init 181 = .ok (.bipush 6, 2) := by decide +kernel
theorem dX12_init_183 : decode cX12_init 183 = .ok (.if_icmp .ge 18, 3) := by decide +kernel
theorem dX12_init_186 : decode cX12_init 186 = .ok (.aload_n 0, 1) := by decide +kernel
theorem dX12_init_187 : decode cX12_init 187 = .ok (.getfield 56, 3) := by decide +kernel
theorem dX12_init_190 : decode cX12_init 190 = .ok (.iconst 3, 1) := by decide +kernel
theorem dX12_init_191 : decode cX12_init 191 = .ok (.iload_n 1, 1) := by decide +kernel
theorem dX12_init_192 : decode cX12_init 192 = .ok (.imul, 1) := by decide +kernel
theorem dX12_init_193 : decode cX12_init 193 = .ok (.iconst (-1), 1) := by decide +kernel
theorem dX12_init_194 : decode cX12_init 194 = .ok (.iastore, 1) := by decide +kernel
theorem dX12_init_195 : decode cX12_init 195 = .ok (.iinc 1 1, 3) := by decide +kernel
theorem dX12_init_198 : decode cX12_init 198 = .ok (.goto (-18), 3) := by decide +kernel
theorem dX12_init_201 : decode cX12_init 201 = .ok (.aload_n 0, 1) := by decide +kernel
theorem dX12_init_202 : decode cX12_init 202 = .ok (.iconst 1, 1) := by decide +kernel
theorem dX12_init_203 : decode cX12_init 203 = .ok (.lconst 1, 1) := by decide +kernel
theorem dX12_init_204 : decode cX12_init 204 = .ok (.invokevirtual 63, 3) := by decide +kernel
theorem dX12_init_207 : decode cX12_init 207 = .ok (.return_, 1) := by decide +kernel
theorem dX12_trims_0 : decode cX12_trims 0 = .ok (.aload_n 0, 1) := by decide +kernel
theorem dX12_trims_1 : decode cX12_trims 1 = .ok (.getfield 13, 3) := by decide +kernel
theorem dX12_trims_4 : decode cX12_trims 4 = .ok (.iload_n 1, 1) := by decide +kernel
theorem dX12_trims_5 : decode cX12_trims 5 = .ok (.iaload, 1) := by decide +kernel
theorem dX12_trims_6 : decode cX12_trims 6 = .ok (.ifCond .le 37, 3) := by decide +kernel
theorem dX12_trims_9 : decode cX12_trims 9 = .ok (.aload_n 0, 1) := by decide +kernel
theorem dX12_trims_10 : decode cX12_trims 10 = .ok (.getfield 7, 3) := by decide +kernel
theorem dX12_trims_13 : decode cX12_trims 13 = .ok (.bipush 66, 2) := by decide +kernel
theorem dX12_trims_15 : decode cX12_trims 15 = .ok (.iload_n 1, 1) := by decide +kernel
theorem dX12_trims_16 : decode cX12_trims 16 = .ok (.imul, 1) := by decide +kernel
theorem dX12_trims_17 : decode cX12_trims 17 = .ok (.aload_n 0, 1) := by decide +kernel
theorem dX12_trims_18 : decode cX12_trims 18 = .ok (.getfield 13, 3) := by decide +kernel
theorem dX12_trims_21 : decode cX12_trims 21 = .ok (.iload_n 1, 1) := by decide +kernel
theorem dX12_trims_22 : decode cX12_trims 22 = .ok (.iaload, 1) := by decide +kernel
theorem dX12_trims_23 : decode cX12_trims 23 = .ok (.iadd, 1) := by decide +kernel
theorem dX12_trims_24 : decode cX12_trims 24 = .ok (.iconst 1, 1) := by decide +kernel
theorem dX12_trims_25 : decode cX12_trims 25 = .ok (.isub, 1) := by decide +kernel
theorem dX12_trims_26 : decode cX12_trims 26 = .ok (.iaload, 1) := by decide +kernel
theorem dX12_trims_27 : decode cX12_trims 27 = .ok (.ifCond .ne 16, 3) := by decide +kernel
theorem dX12_trims_30 : decode cX12_trims 30 = .ok (.aload_n 0, 1) := by decide +kernel
theorem dX12_trims_31 : decode cX12_trims 31 = .ok (.getfield 13, 3) := by decide +kernel
theorem dX12_trims_34 : decode cX12_trims 34 = .ok (.iload_n 1, 1) := by decide +kernel
theorem dX12_trims_35 : decode cX12_trims 35 = .ok (.dup2, 1) := by decide +kernel
theorem dX12_trims_36 : decode cX12_trims 36 = .ok (.iaload, 1) := by decide +kernel
theorem dX12_trims_37 : decode cX12_trims 37 = .ok (.iconst 1, 1) := by decide +kernel
theorem dX12_trims_38 : decode cX12_trims 38 = .ok (.isub, 1) := by decide +kernel
theorem dX12_trims_39 : decode cX12_trims 39 = .ok (.iastore, 1) := by decide +kernel
theorem dX12_trims_40 : decode cX12_trims 40 = .ok (.goto (-40), 3) := by decide +kernel
theorem dX12_trims_43 : decode cX12_trims 43 = .ok (.return_, 1) := by decide +kernel
theorem dX12_sets_0 : decode cX12_sets 0 = .ok (.iconst 0, 1) := by decide +kernel
theorem dX12_sets_1 : decode cX12_sets 1 = .ok (.istore 4, 2) := by decide +kernel
theorem dX12_sets_3 : decode cX12_sets 3 = .ok (.iload 4, 2) := by decide +kernel
theorem dX12_sets_5 : decode cX12_sets 5 = .ok (.bipush 66, 2) := by decide +kernel
theorem dX12_sets_7 : decode cX12_sets 7 = .ok (.if_icmp .ge 43, 3) := by decide +kernel
theorem dX12_sets_10 : decode cX12_sets 10 = .ok (.aload_n 0, 1) := by decide +kernel
theorem dX12_sets_11 : decode cX12_sets 11 = .ok (.getfield 7, 3) := by decide +kernel
theorem dX12_sets_14 : decode cX12_sets 14 = .ok (.bipush 66, 2) := by decide +kernel
theorem dX12_sets_16 : decode cX12_sets 16 = .ok (.iload_n 1, 1) := by decide +kernel
theorem dX12_sets_17 : decode cX12_sets 17 = .ok (.imul, 1) := by decide +kernel
theorem dX12_sets_18 : decode cX12_sets 18 = .ok (.iload 4, 2) := by decide +kernel
theorem dX12_sets_20 : decode cX12_sets 20 = .ok (.iadd, 1) := by decide +kernel
theorem dX12_sets_21 : decode cX12_sets 21 = .ok (.iload 4, 2) := by decide +kernel
theorem dX12_sets_23 : decode cX12_sets 23 = .ok (.iconst 3, 1) := by decide +kernel
theorem dX12_sets_24 : decode cX12_sets 24 = .ok (.if_icmp .ge 18, 3) := by decide +kernel
theorem dX12_sets_27 : decode cX12_sets 27 = .ok (.lload_n 2, 1) := by decide +kernel
theorem dX12_sets_28 : decode cX12_sets 28 = .ok (.bipush 30, 2) := by decide +kernel
theorem dX12_sets_30 : decode cX12_sets 30 = .ok (.iload 4, 2) := by decide +kernel
theorem dX12_sets_32 : decode cX12_sets 32 = .ok (.imul, 1) := by decide +kernel
theorem dX12_sets_33 : decode cX12_sets 33 = .ok (.lshr, 1) := by decide +kernel
theorem dX12_sets_34 : decode cX12_sets 34 = .ok (.ldc2_w 66, 3) := by decide +kernel
theorem dX12_sets_37 : decode cX12_sets 37 = .ok (.land, 1) := by decide +kernel
theorem dX12_sets_38 : decode cX12_sets 38 = .ok (.l2i, 1) := by decide +kernel
theorem dX12_sets_39 : decode cX12_sets 39 = .ok (.goto 4, 3) := by decide +kernel
theorem dX12_sets_42 : decode cX12_sets 42 = .ok (.iconst 0, 1) := by decide +kernel
theorem dX12_sets_43 : decode cX12_sets 43 = .ok (.iastore, 1) := by decide +kernel
theorem dX12_sets_44 : decode cX12_sets 44 = .ok (.iinc 4 1, 3) := by decide +kernel
theorem dX12_sets_47 : decode cX12_sets 47 = .ok (.goto (-44), 3) := by decide +kernel
theorem dX12_sets_50 : decode cX12_sets 50 = .ok (.aload_n 0, 1) := by decide +kernel
theorem dX12_sets_51 : decode cX12_sets 51 = .ok (.getfield 13, 3) := by decide +kernel
theorem dX12_sets_54 : decode cX12_sets 54 = .ok (.iload_n 1, 1) := by decide +kernel
theorem dX12_sets_55 : decode cX12_sets 55 = .ok (.iconst 3, 1) := by decide +kernel
theorem dX12_sets_56 : decode cX12_sets 56 = .ok (.iastore, 1) := by decide +kernel
theorem dX12_sets_57 : decode cX12_sets 57 = .ok (.aload_n 0, 1) := by decide +kernel
theorem dX12_sets_58 : decode cX12_sets 58 = .ok (.iload_n 1, 1) := by decide +kernel
theorem dX12_sets_59 : decode cX12_sets 59 = .ok (.invokevirtual 68, 3) := by decide +kernel
theorem dX12_sets_62 : decode cX12_sets 62 = .ok (.return_, 1) := by decide +kernel
theorem dX12_takes_0 : decode cX12_takes 0 = .ok (.iconst 0, 1) := by decide +kernel
theorem dX12_takes_1 : decode cX12_takes 1 = .ok (.istore_n 3, 1) := by decide +kernel
theorem dX12_takes_2 : decode cX12_takes 2 = .ok (.iload_n 3, 1) := by decide +kernel
theorem dX12_takes_3 : decode cX12_takes 3 = .ok (.bipush 66, 2) := by decide +kernel
theorem dX12_takes_5 : decode cX12_takes 5 = .ok (.if_icmp .ge 31, 3) := by decide +kernel
theorem dX12_takes_8 : decode cX12_takes 8 = .ok (.aload_n 0, 1) := by decide +kernel
theorem dX12_takes_9 : decode cX12_takes 9 = .ok (.getfield 7, 3) := by decide +kernel
theorem dX12_takes_12 : decode cX12_takes 12 = .ok (.bipush 66, 2) := by decide +kernel
theorem dX12_takes_14 : decode cX12_takes 14 = .ok (.iload_n 1, 1) := by decide +kernel
theorem dX12_takes_15 : decode cX12_takes 15 = .ok (.imul, 1) := by decide +kernel
theorem dX12_takes_16 : decode cX12_takes 16 = .ok (.iload_n 3, 1) := by decide +kernel
theorem dX12_takes_17 : decode cX12_takes 17 = .ok (.iadd, 1) := by decide +kernel
theorem dX12_takes_18 : decode cX12_takes 18 = .ok (.aload_n 0, 1) := by decide +kernel
theorem dX12_takes_19 : decode cX12_takes 19 = .ok (.getfield 7, 3) := by decide +kernel
theorem dX12_takes_22 : decode cX12_takes 22 = .ok (.bipush 66, 2) := by decide +kernel
theorem dX12_takes_24 : decode cX12_takes 24 = .ok (.iload_n 2, 1) := by decide +kernel
theorem dX12_takes_25 : decode cX12_takes 25 = .ok (.imul, 1) := by decide +kernel
theorem dX12_takes_26 : decode cX12_takes 26 = .ok (.iload_n 3, 1) := by decide +kernel
theorem dX12_takes_27 : decode cX12_takes 27 = .ok (.iadd, 1) := by decide +kernel
theorem dX12_takes_28 : decode cX12_takes 28 = .ok (.iaload, 1) := by decide +kernel
theorem dX12_takes_29 : decode cX12_takes 29 = .ok (.iastore, 1) := by decide +kernel
theorem dX12_takes_30 : decode cX12_takes 30 = .ok (.iinc 3 1, 3) := by decide +kernel
theorem dX12_takes_33 : decode cX12_takes 33 = .ok (.goto (-31), 3) := by decide +kernel
theorem dX12_takes_36 : decode cX12_takes 36 = .ok (.aload_n 0, 1) := by decide +kernel
theorem dX12_takes_37 : decode cX12_takes 37 = .ok (.getfield 13, 3) := by decide +kernel
theorem dX12_takes_40 : decode cX12_takes 40 = .ok (.iload_n 1, 1) := by decide +kernel
theorem dX12_takes_41 : decode cX12_takes 41 = .ok (.aload_n 0, 1) := by decide +kernel
theorem dX12_takes_42 : decode cX12_takes 42 = .ok (.getfield 13, 3) := by decide +kernel
theorem dX12_takes_45 : decode cX12_takes 45 = .ok (.iload_n 2, 1) := by decide +kernel
theorem dX12_takes_46 : decode cX12_takes 46 = .ok (.iaload, 1) := by decide +kernel
theorem dX12_takes_47 : decode cX12_takes 47 = .ok (.iastore, 1) := by decide +kernel
theorem dX12_takes_48 : decode cX12_takes 48 = .ok (.return_, 1) := by decide +kernel
theorem dX12_times_0 : decode cX12_times 0 = .ok (.lconst 0, 1) := by decide +kernel
theorem dX12_times_1 : decode cX12_times 1 = .ok (.lstore_n 3, 1) := by decide +kernel
theorem dX12_times_2 : decode cX12_times 2 = .ok (.iconst 0, 1) := by decide +kernel
theorem dX12_times_3 : decode cX12_times 3 = .ok (.istore 5, 2) := by decide +kernel
theorem dX12_times_5 : decode cX12_times 5 = .ok (.iload 5, 2) := by decide +kernel
theorem dX12_times_7 : decode cX12_times 7 = .ok (.aload_n 0, 1) := by decide +kernel
theorem dX12_times_8 : decode cX12_times 8 = .ok (.getfield 13, 3) := by decide +kernel
theorem dX12_times_11 : decode cX12_times 11 = .ok (.iload_n 1, 1) := by decide +kernel
theorem dX12_times_12 : decode cX12_times 12 = .ok (.iaload, 1) := by decide +kernel
theorem dX12_times_13 : decode cX12_times 13 = .ok (.if_icmp .ge 54, 3) := by decide +kernel
theorem dX12_times_16 : decode cX12_times 16 = .ok (.aload_n 0, 1) := by decide +kernel
theorem dX12_times_17 : decode cX12_times 17 = .ok (.getfield 7, 3) := by decide +kernel
theorem dX12_times_20 : decode cX12_times 20 = .ok (.bipush 66, 2) := by decide +kernel
theorem dX12_times_22 : decode cX12_times 22 = .ok (.iload_n 1, 1) := by decide +kernel
theorem dX12_times_23 : decode cX12_times 23 = .ok (.imul, 1) := by decide +kernel
theorem dX12_times_24 : decode cX12_times 24 = .ok (.iload 5, 2) := by decide +kernel
theorem dX12_times_26 : decode cX12_times 26 = .ok (.iadd, 1) := by decide +kernel
theorem dX12_times_27 : decode cX12_times 27 = .ok (.iaload, 1) := by decide +kernel
theorem dX12_times_28 : decode cX12_times 28 = .ok (.i2l, 1) := by decide +kernel
theorem dX12_times_29 : decode cX12_times 29 = .ok (.iload_n 2, 1) := by decide +kernel
theorem dX12_times_30 : decode cX12_times 30 = .ok (.i2l, 1) := by decide +kernel
theorem dX12_times_31 : decode cX12_times 31 = .ok (.lmul, 1) := by decide +kernel
theorem dX12_times_32 : decode cX12_times 32 = .ok (.lload_n 3, 1) := by decide +kernel
theorem dX12_times_33 : decode cX12_times 33 = .ok (.ladd, 1) := by decide +kernel
theorem dX12_times_34 : decode cX12_times 34 = .ok (.lstore 6, 2) := by decide +kernel
theorem dX12_times_36 : decode cX12_times 36 = .ok (.aload_n 0, 1) := by decide +kernel
theorem dX12_times_37 : decode cX12_times 37 = .ok (.getfield 7, 3) := by decide +kernel
theorem dX12_times_40 : decode cX12_times 40 = .ok (.bipush 66, 2) := by decide +kernel
theorem dX12_times_42 : decode cX12_times 42 = .ok (.iload_n 1, 1) := by decide +kernel
theorem dX12_times_43 : decode cX12_times 43 = .ok (.imul, 1) := by decide +kernel
theorem dX12_times_44 : decode cX12_times 44 = .ok (.iload 5, 2) := by decide +kernel
theorem dX12_times_46 : decode cX12_times 46 = .ok (.iadd, 1) := by decide +kernel
theorem dX12_times_47 : decode cX12_times 47 = .ok (.lload 6, 2) := by decide +kernel
theorem dX12_times_49 : decode cX12_times 49 = .ok (.ldc2_w 66, 3) := by decide +kernel
theorem dX12_times_52 : decode cX12_times 52 = .ok (.land, 1) := by decide +kernel
theorem dX12_times_53 : decode cX12_times 53 = .ok (.l2i, 1) := by decide +kernel
theorem dX12_times_54 : decode cX12_times 54 = .ok (.iastore, 1) := by decide +kernel
theorem dX12_times_55 : decode cX12_times 55 = .ok (.lload 6, 2) := by decide +kernel
theorem dX12_times_57 : decode cX12_times 57 = .ok (.bipush 30, 2) := by decide +kernel
theorem dX12_times_59 : decode cX12_times 59 = .ok (.lshr, 1) := by decide +kernel
theorem dX12_times_60 : decode cX12_times 60 = .ok (.lstore_n 3, 1) := by decide +kernel
theorem dX12_times_61 : decode cX12_times 61 = .ok (.iinc 5 1, 3) := by decide +kernel
theorem dX12_times_64 : decode cX12_times 64 = .ok (.goto (-59), 3) := by decide +kernel
theorem dX12_times_67 : decode cX12_times 67 = .ok (.lload_n 3, 1) := by decide +kernel
theorem dX12_times_68 : decode cX12_times 68 = .ok (.lconst 0, 1) := by decide +kernel
theorem dX12_times_69 : decode cX12_times 69 = .ok (.lcmp, 1) := by decide +kernel
theorem dX12_times_70 : decode cX12_times 70 = .ok (.ifCond .le 31, 3) := by decide +kernel
theorem dX12_times_73 : decode cX12_times 73 = .ok (.aload_n 0, 1) := by decide +kernel
theorem dX12_times_74 : decode cX12_times 74 = .ok (.getfield 7, 3) := by decide +kernel
theorem dX12_times_77 : decode cX12_times 77 = .ok (.bipush 66, 2) := by decide +kernel
theorem dX12_times_79 : decode cX12_times 79 = .ok (.iload_n 1, 1) := by decide +kernel
theorem dX12_times_80 : decode cX12_times 80 = .ok (.imul, 1) := by decide +kernel
theorem dX12_times_81 : decode cX12_times 81 = .ok (.aload_n 0, 1) := by decide +kernel
theorem dX12_times_82 : decode cX12_times 82 = .ok (.getfield 13, 3) := by decide +kernel
theorem dX12_times_85 : decode cX12_times 85 = .ok (.iload_n 1, 1) := by decide +kernel
theorem dX12_times_86 : decode cX12_times 86 = .ok (.iaload, 1) := by decide +kernel
theorem dX12_times_87 : decode cX12_times 87 = .ok (.iadd, 1) := by decide +kernel
theorem dX12_times_88 : decode cX12_times 88 = .ok (.lload_n 3, 1) := by decide +kernel
theorem dX12_times_89 : decode cX12_times 89 = .ok (.l2i, 1) := by decide +kernel
theorem dX12_times_90 : decode cX12_times 90 = .ok (.iastore, 1) := by decide +kernel
theorem dX12_times_91 : decode cX12_times 91 = .ok (.aload_n 0, 1) := by decide +kernel
theorem dX12_times_92 : decode cX12_times 92 = .ok (.getfield 13, 3) := by decide +kernel
theorem dX12_times_95 : decode cX12_times 95 = .ok (.iload_n 1, 1) := by decide +kernel
theorem dX12_times_96 : decode cX12_times 96 = .ok (.dup2, 1) := by decide +kernel
theorem dX12_times_97 : decode cX12_times 97 = .ok (.iaload, 1) := by decide +kernel
theorem dX12_times_98 : decode cX12_times 98 = .ok (.iconst 1, 1) := by decide +kernel
theorem dX12_times_99 : decode cX12_times 99 = .ok (.iadd, 1) := by decide +kernel
theorem dX12_times_100 : decode cX12_times 100 = .ok (.iastore, 1) := by decide +kernel
theorem dX12_times_101 : decode cX12_times 101 = .ok (.aload_n 0, 1) := by decide +kernel
theorem dX12_times_102 : decode cX12_times 102 = .ok (.iload_n 1, 1) := by decide +kernel
theorem dX12_times_103 : decode cX12_times 103 = .ok (.invokevirtual 68, 3) := by decide +kernel
theorem dX12_times_106 : decode cX12_times 106 = .ok (.return_, 1) := by decide +kernel
theorem dX12_divides_0 : decode cX12_divides 0 = .ok (.lconst 0, 1) := by decide +kernel
theorem dX12_divides_1 : decode cX12_divides 1 = .ok (.lstore_n 3, 1) := by decide +kernel
theorem dX12_divides_2 : decode cX12_divides 2 = .ok (.aload_n 0, 1) := by decide +kernel
theorem dX12_divides_3 : decode cX12_divides 3 = .ok (.getfield 13, 3) := by decide +kernel
theorem dX12_divides_6 : decode cX12_divides 6 = .ok (.iload_n 1, 1) := by decide +kernel
theorem dX12_divides_7 : decode cX12_divides 7 = .ok (.iaload, 1) := by decide +kernel
theorem dX12_divides_8 : decode cX12_divides 8 = .ok (.iconst 1, 1) := by decide +kernel
theorem dX12_divides_9 : decode cX12_divides 9 = .ok (.isub, 1) := by decide +kernel
theorem dX12_divides_10 : decode cX12_divides 10 = .ok (.istore 5, 2) := by decide +kernel
theorem dX12_divides_12 : decode cX12_divides 12 = .ok (.iload 5, 2) := by decide +kernel
theorem dX12_divides_14 : decode cX12_divides 14 = .ok (.ifCond .lt 53, 3) := by decide +kernel
theorem dX12_divides_17 : decode cX12_divides 17 = .ok (.lload_n 3, 1) := by decide +kernel
theorem dX12_divides_18 : decode cX12_divides 18 = .ok (.bipush 30, 2) := by decide +kernel
theorem dX12_divides_20 : decode cX12_divides 20 = .ok (.lshl, 1) := by decide +kernel
theorem dX12_divides_21 : decode cX12_divides 21 = .ok (.aload_n 0, 1) := by decide +kernel
theorem dX12_divides_22 : decode cX12_divides 22 = .ok (.getfield 7, 3) := by decide +kernel
theorem dX12_divides_25 : decode cX12_divides 25 = .ok (.bipush 66, 2) := by decide +kernel
theorem dX12_divides_27 : decode cX12_divides 27 = .ok (.iload_n 1, 1) := by decide +kernel
theorem dX12_divides_28 : decode cX12_divides 28 = .ok (.imul, 1) := by decide +kernel
theorem dX12_divides_29 : decode cX12_divides 29 = .ok (.iload 5, 2) := by decide +kernel
theorem dX12_divides_31 : decode cX12_divides 31 = .ok (.iadd, 1) := by decide +kernel
theorem dX12_divides_32 : decode cX12_divides 32 = .ok (.iaload, 1) := by decide +kernel
theorem dX12_divides_33 : decode cX12_divides 33 = .ok (.i2l, 1) := by decide +kernel
theorem dX12_divides_34 : decode cX12_divides 34 = .ok (.ladd, 1) := by decide +kernel
theorem dX12_divides_35 : decode cX12_divides 35 = .ok (.lstore 6, 2) := by decide +kernel
theorem dX12_divides_37 : decode cX12_divides 37 = .ok (.aload_n 0, 1) := by decide +kernel
theorem dX12_divides_38 : decode cX12_divides 38 = .ok (.getfield 7, 3) := by decide +kernel
theorem dX12_divides_41 : decode cX12_divides 41 = .ok (.bipush 66, 2) := by decide +kernel
theorem dX12_divides_43 : decode cX12_divides 43 = .ok (.iload_n 1, 1) := by decide +kernel
theorem dX12_divides_44 : decode cX12_divides 44 = .ok (.imul, 1) := by decide +kernel
theorem dX12_divides_45 : decode cX12_divides 45 = .ok (.iload 5, 2) := by decide +kernel
theorem dX12_divides_47 : decode cX12_divides 47 = .ok (.iadd, 1) := by decide +kernel
theorem dX12_divides_48 : decode cX12_divides 48 = .ok (.lload 6, 2) := by decide +kernel
theorem dX12_divides_50 : decode cX12_divides 50 = .ok (.iload_n 2, 1) := by decide +kernel
theorem dX12_divides_51 : decode cX12_divides 51 = .ok (.i2l, 1) := by decide +kernel
theorem dX12_divides_52 : decode cX12_divides 52 = .ok (.ldiv, 1) := by decide +kernel
theorem dX12_divides_53 : decode cX12_divides 53 = .ok (.l2i, 1) := by decide +kernel
theorem dX12_divides_54 : decode cX12_divides 54 = .ok (.iastore, 1) := by decide +kernel
theorem dX12_divides_55 : decode cX12_divides 55 = .ok (.lload 6, 2) := by decide +kernel
theorem dX12_divides_57 : decode cX12_divides 57 = .ok (.iload_n 2, 1) := by decide +kernel
theorem dX12_divides_58 : decode cX12_divides 58 = .ok (.i2l, 1) := by decide +kernel
theorem dX12_divides_59 : decode cX12_divides 59 = .ok (.lrem, 1) := by decide +kernel
theorem dX12_divides_60 : decode cX12_divides 60 = .ok (.lstore_n 3, 1) := by decide +kernel
theorem dX12_divides_61 : decode cX12_divides 61 = .ok (.iinc 5 (-1), 3) := by decide +kernel
theorem dX12_divides_64 : decode cX12_divides 64 = .ok (.goto (-52), 3) := by decide +kernel
theorem dX12_divides_67 : decode cX12_divides 67 = .ok (.aload_n 0, 1) := by decide +kernel
theorem dX12_divides_68 : decode cX12_divides 68 = .ok (.iload_n 1, 1) := by decide +kernel
theorem dX12_divides_69 : decode cX12_divides 69 = .ok (.invokevirtual 68, 3) := by decide +kernel
theorem dX12_divides_72 : decode cX12_divides 72 = .ok (.return_, 1) := by decide +kernel
theorem dX12_adds_0 : decode cX12_adds 0 = .ok (.iconst 0, 1) := by decide +kernel
theorem dX12_adds_1 : decode cX12_adds 1 = .ok (.istore_n 3, 1) := by decide +kernel
theorem dX12_adds_2 : decode cX12_adds 2 = .ok (.aload_n 0, 1) := by decide +kernel
theorem dX12_adds_3 : decode cX12_adds 3 = .ok (.getfield 13, 3) := by decide +kernel
theorem dX12_adds_6 : decode cX12_adds 6 = .ok (.iload_n 1, 1) := by decide +kernel
theorem dX12_adds_7 : decode cX12_adds 7 = .ok (.iaload, 1) := by decide +kernel
theorem dX12_adds_8 : decode cX12_adds 8 = .ok (.aload_n 0, 1) := by decide +kernel
theorem dX12_adds_9 : decode cX12_adds 9 = .ok (.getfield 13, 3) := by decide +kernel
theorem dX12_adds_12 : decode cX12_adds 12 = .ok (.iload_n 2, 1) := by decide +kernel
theorem dX12_adds_13 : decode cX12_adds 13 = .ok (.iaload, 1) := by decide +kernel
theorem dX12_adds_14 : decode cX12_adds 14 = .ok (.if_icmp .le 12, 3) := by decide +kernel
theorem dX12_adds_17 : decode cX12_adds 17 = .ok (.aload_n 0, 1) := by decide +kernel
theorem dX12_adds_18 : decode cX12_adds 18 = .ok (.getfield 13, 3) := by decide +kernel
theorem dX12_adds_21 : decode cX12_adds 21 = .ok (.iload_n 1, 1) := by decide +kernel
theorem dX12_adds_22 : decode cX12_adds 22 = .ok (.iaload, 1) := by decide +kernel
theorem dX12_adds_23 : decode cX12_adds 23 = .ok (.goto 9, 3) := by decide +kernel
theorem dX12_adds_26 : decode cX12_adds 26 = .ok (.aload_n 0, 1) := by decide +kernel
theorem dX12_adds_27 : decode cX12_adds 27 = .ok (.getfield 13, 3) := by decide +kernel
theorem dX12_adds_30 : decode cX12_adds 30 = .ok (.iload_n 2, 1) := by decide +kernel
theorem dX12_adds_31 : decode cX12_adds 31 = .ok (.iaload, 1) := by decide +kernel
theorem dX12_adds_32 : decode cX12_adds 32 = .ok (.istore 4, 2) := by decide +kernel
theorem dX12_adds_34 : decode cX12_adds 34 = .ok (.iconst 0, 1) := by decide +kernel
theorem dX12_adds_35 : decode cX12_adds 35 = .ok (.istore 5, 2) := by decide +kernel
theorem dX12_adds_37 : decode cX12_adds 37 = .ok (.iload 5, 2) := by decide +kernel
theorem dX12_adds_39 : decode cX12_adds 39 = .ok (.iload 4, 2) := by decide +kernel
theorem dX12_adds_41 : decode cX12_adds 41 = .ok (.if_icmp .ge 61, 3) := by decide +kernel
theorem dX12_adds_44 : decode cX12_adds 44 = .ok (.aload_n 0, 1) := by decide +kernel
theorem dX12_adds_45 : decode cX12_adds 45 = .ok (.getfield 7, 3) := by decide +kernel
theorem dX12_adds_48 : decode cX12_adds 48 = .ok (.bipush 66, 2) := by decide +kernel
theorem dX12_adds_50 : decode cX12_adds 50 = .ok (.iload_n 1, 1) := by decide +kernel
theorem dX12_adds_51 : decode cX12_adds 51 = .ok (.imul, 1) := by decide +kernel
theorem dX12_adds_52 : decode cX12_adds 52 = .ok (.iload 5, 2) := by decide +kernel
theorem dX12_adds_54 : decode cX12_adds 54 = .ok (.iadd, 1) := by decide +kernel
theorem dX12_adds_55 : decode cX12_adds 55 = .ok (.iaload, 1) := by decide +kernel
theorem dX12_adds_56 : decode cX12_adds 56 = .ok (.aload_n 0, 1) := by decide +kernel
theorem dX12_adds_57 : decode cX12_adds 57 = .ok (.getfield 7, 3) := by decide +kernel
theorem dX12_adds_60 : decode cX12_adds 60 = .ok (.bipush 66, 2) := by decide +kernel
theorem dX12_adds_62 : decode cX12_adds 62 = .ok (.iload_n 2, 1) := by decide +kernel
theorem dX12_adds_63 : decode cX12_adds 63 = .ok (.imul, 1) := by decide +kernel
theorem dX12_adds_64 : decode cX12_adds 64 = .ok (.iload 5, 2) := by decide +kernel
theorem dX12_adds_66 : decode cX12_adds 66 = .ok (.iadd, 1) := by decide +kernel
theorem dX12_adds_67 : decode cX12_adds 67 = .ok (.iaload, 1) := by decide +kernel
theorem dX12_adds_68 : decode cX12_adds 68 = .ok (.iadd, 1) := by decide +kernel
theorem dX12_adds_69 : decode cX12_adds 69 = .ok (.iload_n 3, 1) := by decide +kernel
theorem dX12_adds_70 : decode cX12_adds 70 = .ok (.iadd, 1) := by decide +kernel
theorem dX12_adds_71 : decode cX12_adds 71 = .ok (.istore 6, 2) := by decide +kernel
theorem dX12_adds_73 : decode cX12_adds 73 = .ok (.aload_n 0, 1) := by decide +kernel
theorem dX12_adds_74 : decode cX12_adds 74 = .ok (.getfield 7, 3) := by decide +kernel
theorem dX12_adds_77 : decode cX12_adds 77 = .ok (.bipush 66, 2) := by decide +kernel
theorem dX12_adds_79 : decode cX12_adds 79 = .ok (.iload_n 1, 1) := by decide +kernel
theorem dX12_adds_80 : decode cX12_adds 80 = .ok (.imul, 1) := by decide +kernel
theorem dX12_adds_81 : decode cX12_adds 81 = .ok (.iload 5, 2) := by decide +kernel
theorem dX12_adds_83 : decode cX12_adds 83 = .ok (.iadd, 1) := by decide +kernel
theorem dX12_adds_84 : decode cX12_adds 84 = .ok (.iload 6, 2) := by decide +kernel
theorem dX12_adds_86 : decode cX12_adds 86 = .ok (.ldc 72, 2) := by decide +kernel
theorem dX12_adds_88 : decode cX12_adds 88 = .ok (.iand, 1) := by decide +kernel
theorem dX12_adds_89 : decode cX12_adds 89 = .ok (.iastore, 1) := by decide +kernel
theorem dX12_adds_90 : decode cX12_adds 90 = .ok (.iload 6, 2) := by decide +kernel
theorem dX12_adds_92 : decode cX12_adds 92 = .ok (.bipush 30, 2) := by decide +kernel
theorem dX12_adds_94 : decode cX12_adds 94 = .ok (.iushr, 1) := by decide +kernel
theorem dX12_adds_95 : decode cX12_adds 95 = .ok (.istore_n 3, 1) := by decide +kernel
theorem dX12_adds_96 : decode cX12_adds 96 = .ok (.iinc 5 1, 3) := by decide +kernel
theorem dX12_adds_99 : decode cX12_adds 99 = .ok (.goto (-62), 3) := by decide +kernel
theorem dX12_adds_102 : decode cX12_adds 102 = .ok (.aload_n 0, 1) := by decide +kernel
theorem dX12_adds_103 : decode cX12_adds 103 = .ok (.getfield 7, 3) := by decide +kernel
theorem dX12_adds_106 : decode cX12_adds 106 = .ok (.bipush 66, 2) := by decide +kernel
theorem dX12_adds_108 : decode cX12_adds 108 = .ok (.iload_n 1, 1) := by decide +kernel
theorem dX12_adds_109 : decode cX12_adds 109 = .ok (.imul, 1) := by decide +kernel
theorem dX12_adds_110 : decode cX12_adds 110 = .ok (.iload 4, 2) := by decide +kernel
theorem dX12_adds_112 : decode cX12_adds 112 = .ok (.iadd, 1) := by decide +kernel
theorem dX12_adds_113 : decode cX12_adds 113 = .ok (.iload_n 3, 1) := by decide +kernel
theorem dX12_adds_114 : decode cX12_adds 114 = .ok (.iastore, 1) := by decide +kernel
theorem dX12_adds_115 : decode cX12_adds 115 = .ok (.aload_n 0, 1) := by decide +kernel
theorem dX12_adds_116 : decode cX12_adds 116 = .ok (.getfield 13, 3) := by decide +kernel
theorem dX12_adds_119 : decode cX12_adds 119 = .ok (.iload_n 1, 1) := by decide +kernel
theorem dX12_adds_120 : decode cX12_adds 120 = .ok (.iload 4, 2) := by decide +kernel
theorem dX12_adds_122 : decode cX12_adds 122 = .ok (.iload_n 3, 1) := by decide +kernel
theorem dX12_adds_123 : decode cX12_adds 123 = .ok (.iadd, 1) := by decide +kernel
theorem dX12_adds_124 : decode cX12_adds 124 = .ok (.iastore, 1) := by decide +kernel
theorem dX12_adds_125 : decode cX12_adds 125 = .ok (.aload_n 0, 1) := by decide +kernel
theorem dX12_adds_126 : decode cX12_adds 126 = .ok (.iload_n 1, 1) := by decide +kernel
theorem dX12_adds_127 : decode cX12_adds 127 = .ok (.invokevirtual 68, 3) := by decide +kernel
theorem dX12_adds_130 : decode cX12_adds 130 = .ok (.return_, 1) := by decide +kernel
theorem dX12_lessens_0 : decode cX12_lessens 0 = .ok (.iconst 0, 1) := by decide +kernel
theorem dX12_lessens_1 : decode cX12_lessens 1 = .ok (.istore_n 3, 1) := by decide +kernel
theorem dX12_lessens_2 : decode cX12_lessens 2 = .ok (.iconst 0, 1) := by decide +kernel
theorem dX12_lessens_3 : decode cX12_lessens 3 = .ok (.istore 4, 2) := by decide +kernel
theorem dX12_lessens_5 : decode cX12_lessens 5 = .ok (.iload 4, 2) := by decide +kernel
theorem dX12_lessens_7 : decode cX12_lessens 7 = .ok (.aload_n 0, 1) := by decide +kernel
theorem dX12_lessens_8 : decode cX12_lessens 8 = .ok (.getfield 13, 3) := by decide +kernel
theorem dX12_lessens_11 : decode cX12_lessens 11 = .ok (.iload_n 1, 1) := by decide +kernel
theorem dX12_lessens_12 : decode cX12_lessens 12 = .ok (.iaload, 1) := by decide +kernel
theorem dX12_lessens_13 : decode cX12_lessens 13 = .ok (.if_icmp .ge 66, 3) := by decide +kernel
theorem dX12_lessens_16 : decode cX12_lessens 16 = .ok (.aload_n 0, 1) := by decide +kernel
theorem dX12_lessens_17 : decode cX12_lessens 17 = .ok (.getfield 7, 3) := by decide +kernel
theorem dX12_lessens_20 : decode cX12_lessens 20 = .ok (.bipush 66, 2) := by decide +kernel
theorem dX12_lessens_22 : decode cX12_lessens 22 = .ok (.iload_n 1, 1) := by decide +kernel
theorem dX12_lessens_23 : decode cX12_lessens 23 = .ok (.imul, 1) := by decide +kernel
theorem dX12_lessens_24 : decode cX12_lessens 24 = .ok (.iload 4, 2) := by decide +kernel
theorem dX12_lessens_26 : decode cX12_lessens 26 = .ok (.iadd, 1) := by decide +kernel
theorem dX12_lessens_27 : decode cX12_lessens 27 = .ok (.iaload, 1) := by decide +kernel
theorem dX12_lessens_28 : decode cX12_lessens 28 = .ok (.aload_n 0, 1) := by decide +kernel
theorem dX12_lessens_29 : decode cX12_lessens 29 = .ok (.getfield 7, 3) := by decide +kernel
theorem dX12_lessens_32 : decode cX12_lessens 32 = .ok (.bipush 66, 2) := by decide +kernel
theorem dX12_lessens_34 : decode cX12_lessens 34 = .ok (.iload_n 2, 1) := by decide +kernel
theorem dX12_lessens_35 : decode cX12_lessens 35 = .ok (.imul, 1) := by decide +kernel
theorem dX12_lessens_36 : decode cX12_lessens 36 = .ok (.iload 4, 2) := by decide +kernel
theorem dX12_lessens_38 : decode cX12_lessens 38 = .ok (.iadd, 1) := by decide +kernel
theorem dX12_lessens_39 : decode cX12_lessens 39 = .ok (.iaload, 1) := by decide +kernel
theorem dX12_lessens_40 : decode cX12_lessens 40 = .ok (.isub, 1) := by decide +kernel
theorem dX12_lessens_41 : decode cX12_lessens 41 = .ok (.iload_n 3, 1) := by decide +kernel
theorem dX12_lessens_42 : decode cX12_lessens 42 = .ok (.isub, 1) := by decide +kernel
theorem dX12_lessens_43 : decode cX12_lessens 43 = .ok (.istore 5, 2) := by decide +kernel
theorem dX12_lessens_45 : decode cX12_lessens 45 = .ok (.aload_n 0, 1) := by decide +kernel
theorem dX12_lessens_46 : decode cX12_lessens 46 = .ok (.getfield 7, 3) := by decide +kernel
theorem dX12_lessens_49 : decode cX12_lessens 49 = .ok (.bipush 66, 2) := by decide +kernel
theorem dX12_lessens_51 : decode cX12_lessens 51 = .ok (.iload_n 1, 1) := by decide +kernel
theorem dX12_lessens_52 : decode cX12_lessens 52 = .ok (.imul, 1) := by decide +kernel
theorem dX12_lessens_53 : decode cX12_lessens 53 = .ok (.iload 4, 2) := by decide +kernel
theorem dX12_lessens_55 : decode cX12_lessens 55 = .ok (.iadd, 1) := by decide +kernel
theorem dX12_lessens_56 : decode cX12_lessens 56 = .ok (.iload 5, 2) := by decide +kernel
theorem dX12_lessens_58 : decode cX12_lessens 58 = .ok (.ldc 72, 2) := by decide +kernel
theorem dX12_lessens_60 : decode cX12_lessens 60 = .ok (.iand, 1) := by decide +kernel
theorem dX12_lessens_61 : decode cX12_lessens 61 = .ok (.iastore, 1) := by decide +kernel
theorem dX12_lessens_62 : decode cX12_lessens 62 = .ok (.iload 5, 2) := by decide +kernel
theorem dX12_lessens_64 : decode cX12_lessens 64 = .ok (.ifCond .ge 7, 3) := by decide +kernel
theorem dX12_lessens_67 : decode cX12_lessens 67 = .ok (.iconst 1, 1) := by decide +kernel
theorem dX12_lessens_68 : decode cX12_lessens 68 = .ok (.goto 4, 3) := by decide +kernel
theorem dX12_lessens_71 : decode cX12_lessens 71 = .ok (.iconst 0, 1) := by decide +kernel
theorem dX12_lessens_72 : decode cX12_lessens 72 = .ok (.istore_n 3, 1) := by decide +kernel
theorem dX12_lessens_73 : decode cX12_lessens 73 = .ok (.iinc 4 1, 3) := by decide +kernel
theorem dX12_lessens_76 : decode cX12_lessens 76 = .ok (.goto (-71), 3) := by decide +kernel
theorem dX12_lessens_79 : decode cX12_lessens 79 = .ok (.aload_n 0, 1) := by decide +kernel
theorem dX12_lessens_80 : decode cX12_lessens 80 = .ok (.iload_n 1, 1) := by decide +kernel
theorem dX12_lessens_81 : decode cX12_lessens 81 = .ok (.invokevirtual 68, 3) := by decide +kernel
theorem dX12_lessens_84 : decode cX12_lessens 84 = .ok (.return_, 1) := by decide +kernel
theorem dX12_against_0 : decode cX12_against 0 = .ok (.aload_n 0, 1) := by decide +kernel
theorem dX12_against_1 : decode cX12_against 1 = .ok (.getfield 13, 3) := by decide +kernel
theorem dX12_against_4 : decode cX12_against 4 = .ok (.iload_n 1, 1) := by decide +kernel
theorem dX12_against_5 : decode cX12_against 5 = .ok (.iaload, 1) := by decide +kernel
theorem dX12_against_6 : decode cX12_against 6 = .ok (.aload_n 0, 1) := by decide +kernel
theorem dX12_against_7 : decode cX12_against 7 = .ok (.getfield 13, 3) := by decide +kernel
theorem dX12_against_10 : decode cX12_against 10 = .ok (.iload_n 2, 1) := by decide +kernel
theorem dX12_against_11 : decode cX12_against 11 = .ok (.iaload, 1) := by decide +kernel
theorem dX12_against_12 : decode cX12_against 12 = .ok (.if_icmp .eq 24, 3) := by decide +kernel
theorem dX12_against_15 : decode cX12_against 15 = .ok (.aload_n 0, 1) := by decide +kernel
theorem dX12_against_16 : decode cX12_against 16 = .ok (.getfield 13, 3) := by decide +kernel
theorem dX12_against_19 : decode cX12_against 19 = .ok (.iload_n 1, 1) := by decide +kernel
theorem dX12_against_20 : decode cX12_against 20 = .ok (.iaload, 1) := by decide +kernel
theorem dX12_against_21 : decode cX12_against 21 = .ok (.aload_n 0, 1) := by decide +kernel
theorem dX12_against_22 : decode cX12_against 22 = .ok (.getfield 13, 3) := by decide +kernel
theorem dX12_against_25 : decode cX12_against 25 = .ok (.iload_n 2, 1) := by decide +kernel
theorem dX12_against_26 : decode cX12_against 26 = .ok (.iaload, 1) := by decide +kernel
theorem dX12_against_27 : decode cX12_against 27 = .ok (.if_icmp .ge 7, 3) := by decide +kernel
theorem dX12_against_30 : decode cX12_against 30 = .ok (.iconst (-1), 1) := by decide +kernel
theorem dX12_against_31 : decode cX12_against 31 = .ok (.goto 4, 3) := by decide +kernel
theorem dX12_against_34 : decode cX12_against 34 = .ok (.iconst 1, 1) := by decide +kernel
theorem dX12_against_35 : decode cX12_against 35 = .ok (.ireturn, 1) := by decide +kernel
theorem dX12_against_36 : decode cX12_against 36 = .ok (.aload_n 0, 1) := by decide +kernel
theorem dX12_against_37 : decode cX12_against 37 = .ok (.getfield 13, 3) := by decide +kernel
theorem dX12_against_40 : decode cX12_against 40 = .ok (.iload_n 1, 1) := by decide +kernel
theorem dX12_against_41 : decode cX12_against 41 = .ok (.iaload, 1) := by decide +kernel
theorem dX12_against_42 : decode cX12_against 42 = .ok (.iconst 1, 1) := by decide +kernel
theorem dX12_against_43 : decode cX12_against 43 = .ok (.isub, 1) := by decide +kernel
theorem dX12_against_44 : decode cX12_against 44 = .ok (.istore_n 3, 1) := by decide +kernel
theorem dX12_against_45 : decode cX12_against 45 = .ok (.iload_n 3, 1) := by decide +kernel
theorem dX12_against_46 : decode cX12_against 46 = .ok (.ifCond .lt 65, 3) := by decide +kernel
theorem dX12_against_49 : decode cX12_against 49 = .ok (.aload_n 0, 1) := by decide +kernel
theorem dX12_against_50 : decode cX12_against 50 = .ok (.getfield 7, 3) := by decide +kernel
theorem dX12_against_53 : decode cX12_against 53 = .ok (.bipush 66, 2) := by decide +kernel
theorem dX12_against_55 : decode cX12_against 55 = .ok (.iload_n 1, 1) := by decide +kernel
theorem dX12_against_56 : decode cX12_against 56 = .ok (.imul, 1) := by decide +kernel
theorem dX12_against_57 : decode cX12_against 57 = .ok (.iload_n 3, 1) := by decide +kernel
theorem dX12_against_58 : decode cX12_against 58 = .ok (.iadd, 1) := by decide +kernel
theorem dX12_against_59 : decode cX12_against 59 = .ok (.iaload, 1) := by decide +kernel
theorem dX12_against_60 : decode cX12_against 60 = .ok (.aload_n 0, 1) := by decide +kernel
theorem dX12_against_61 : decode cX12_against 61 = .ok (.getfield 7, 3) := by decide +kernel
theorem dX12_against_64 : decode cX12_against 64 = .ok (.bipush 66, 2) := by decide +kernel
theorem dX12_against_66 : decode cX12_against 66 = .ok (.iload_n 2, 1) := by decide +kernel
theorem dX12_against_67 : decode cX12_against 67 = .ok (.imul, 1) := by decide +kernel
theorem dX12_against_68 : decode cX12_against 68 = .ok (.iload_n 3, 1) := by decide +kernel
theorem dX12_against_69 : decode cX12_against 69 = .ok (.iadd, 1) := by decide +kernel
theorem dX12_against_70 : decode cX12_against 70 = .ok (.iaload, 1) := by decide +kernel
theorem dX12_against_71 : decode cX12_against 71 = .ok (.if_icmp .eq 34, 3) := by decide +kernel
theorem dX12_against_74 : decode cX12_against 74 = .ok (.aload_n 0, 1) := by decide +kernel
theorem dX12_against_75 : decode cX12_against 75 = .ok (.getfield 7, 3) := by decide +kernel
theorem dX12_against_78 : decode cX12_against 78 = .ok (.bipush 66, 2) := by decide +kernel
theorem dX12_against_80 : decode cX12_against 80 = .ok (.iload_n 1, 1) := by decide +kernel
theorem dX12_against_81 : decode cX12_against 81 = .ok (.imul, 1) := by decide +kernel
theorem dX12_against_82 : decode cX12_against 82 = .ok (.iload_n 3, 1) := by decide +kernel
theorem dX12_against_83 : decode cX12_against 83 = .ok (.iadd, 1) := by decide +kernel
theorem dX12_against_84 : decode cX12_against 84 = .ok (.iaload, 1) := by decide +kernel
theorem dX12_against_85 : decode cX12_against 85 = .ok (.aload_n 0, 1) := by decide +kernel
theorem dX12_against_86 : decode cX12_against 86 = .ok (.getfield 7, 3) := by decide +kernel
theorem dX12_against_89 : decode cX12_against 89 = .ok (.bipush 66, 2) := by decide +kernel
theorem dX12_against_91 : decode cX12_against 91 = .ok (.iload_n 2, 1) := by decide +kernel
theorem dX12_against_92 : decode cX12_against 92 = .ok (.imul, 1) := by decide +kernel
theorem dX12_against_93 : decode cX12_against 93 = .ok (.iload_n 3, 1) := by decide +kernel
theorem dX12_against_94 : decode cX12_against 94 = .ok (.iadd, 1) := by decide +kernel
theorem dX12_against_95 : decode cX12_against 95 = .ok (.iaload, 1) := by decide +kernel
theorem dX12_against_96 : decode cX12_against 96 = .ok (.if_icmp .ge 7, 3) := by decide +kernel
theorem dX12_against_99 : decode cX12_against 99 = .ok (.iconst (-1), 1) := by decide +kernel
theorem dX12_against_100 : decode cX12_against 100 = .ok (.goto 4, 3) := by decide +kernel
theorem dX12_against_103 : decode cX12_against 103 = .ok (.iconst 1, 1) := by decide +kernel
theorem dX12_against_104 : decode cX12_against 104 = .ok (.ireturn, 1) := by decide +kernel
theorem dX12_against_105 : decode cX12_against 105 = .ok (.iinc 3 (-1), 3) := by decide +kernel
theorem dX12_against_108 : decode cX12_against 108 = .ok (.goto (-63), 3) := by decide +kernel
theorem dX12_against_111 : decode cX12_against 111 = .ok (.iconst 0, 1) := by decide +kernel
theorem dX12_against_112 : decode cX12_against 112 = .ok (.ireturn, 1) := by decide +kernel
theorem dX12_isEven_0 : decode cX12_isEven 0 = .ok (.aload_n 0, 1) := by decide +kernel
theorem dX12_isEven_1 : decode cX12_isEven 1 = .ok (.getfield 7, 3) := by decide +kernel
theorem dX12_isEven_4 : decode cX12_isEven 4 = .ok (.bipush 66, 2) := by decide +kernel
theorem dX12_isEven_6 : decode cX12_isEven 6 = .ok (.iload_n 1, 1) := by decide +kernel
theorem dX12_isEven_7 : decode cX12_isEven 7 = .ok (.imul, 1) := by decide +kernel
theorem dX12_isEven_8 : decode cX12_isEven 8 = .ok (.iaload, 1) := by decide +kernel
theorem dX12_isEven_9 : decode cX12_isEven 9 = .ok (.iconst 1, 1) := by decide +kernel
theorem dX12_isEven_10 : decode cX12_isEven 10 = .ok (.iand, 1) := by decide +kernel
theorem dX12_isEven_11 : decode cX12_isEven 11 = .ok (.ifCond .ne 7, 3) := by decide +kernel
theorem dX12_isEven_14 : decode cX12_isEven 14 = .ok (.iconst 1, 1) := by decide +kernel
theorem dX12_isEven_15 : decode cX12_isEven 15 = .ok (.goto 4, 3) := by decide +kernel
theorem dX12_isEven_18 : decode cX12_isEven 18 = .ok (.iconst 0, 1) := by decide +kernel
theorem dX12_isEven_19 : decode cX12_isEven 19 = .ok (.ireturn, 1) := by decide +kernel
theorem dX12_halves_0 : decode cX12_halves 0 = .ok (.iconst 0, 1) := by decide +kernel
theorem dX12_halves_1 : decode cX12_halves 1 = .ok (.istore_n 2, 1) := by decide +kernel
theorem dX12_halves_2 : decode cX12_halves 2 = .ok (.iload_n 2, 1) := by decide +kernel
theorem dX12_halves_3 : decode cX12_halves 3 = .ok (.aload_n 0, 1) := by decide +kernel
theorem dX12_halves_4 : decode cX12_halves 4 = .ok (.getfield 13, 3) := by decide +kernel
theorem dX12_halves_7 : decode cX12_halves 7 = .ok (.iload_n 1, 1) := by decide +kernel
theorem dX12_halves_8 : decode cX12_halves 8 = .ok (.iaload, 1) := by decide +kernel
theorem dX12_halves_9 : decode cX12_halves 9 = .ok (.if_icmp .ge 70, 3) := by decide +kernel
theorem dX12_halves_12 : decode cX12_halves 12 = .ok (.iload_n 2, 1) := by decide +kernel
theorem dX12_halves_13 : decode cX12_halves 13 = .ok (.iconst 1, 1) := by decide +kernel
theorem dX12_halves_14 : decode cX12_halves 14 = .ok (.iadd, 1) := by decide +kernel
theorem dX12_halves_15 : decode cX12_halves 15 = .ok (.aload_n 0, 1) := by decide +kernel
theorem dX12_halves_16 : decode cX12_halves 16 = .ok (.getfield 13, 3) := by decide +kernel
theorem dX12_halves_19 : decode cX12_halves 19 = .ok (.iload_n 1, 1) := by decide +kernel
theorem dX12_halves_20 : decode cX12_halves 20 = .ok (.iaload, 1) := by decide +kernel
theorem dX12_halves_21 : decode cX12_halves 21 = .ok (.if_icmp .ge 21, 3) := by decide +kernel
theorem dX12_halves_24 : decode cX12_halves 24 = .ok (.aload_n 0, 1) := by decide +kernel
theorem dX12_halves_25 : decode cX12_halves 25 = .ok (.getfield 7, 3) := by decide +kernel
theorem dX12_halves_28 : decode cX12_halves 28 = .ok (.bipush 66, 2) := by decide +kernel
theorem dX12_halves_30 : decode cX12_halves 30 = .ok (.iload_n 1, 1) := by decide +kernel
theorem dX12_halves_31 : decode cX12_halves 31 = .ok (.imul, 1) := by decide +kernel
theorem dX12_halves_32 : decode cX12_halves 32 = .ok (.iload_n 2, 1) := by decide +kernel
theorem dX12_halves_33 : decode cX12_halves 33 = .ok (.iadd, 1) := by decide +kernel
theorem dX12_halves_34 : decode cX12_halves 34 = .ok (.iconst 1, 1) := by decide +kernel
theorem dX12_halves_35 : decode cX12_halves 35 = .ok (.iadd, 1) := by decide +kernel
theorem dX12_halves_36 : decode cX12_halves 36 = .ok (.iaload, 1) := by decide +kernel
theorem dX12_halves_37 : decode cX12_halves 37 = .ok (.iconst 1, 1) := by decide +kernel
theorem dX12_halves_38 : decode cX12_halves 38 = .ok (.iand, 1) := by decide +kernel
theorem dX12_halves_39 : decode cX12_halves 39 = .ok (.goto 4, 3) := by decide +kernel
theorem dX12_halves_42 : decode cX12_halves 42 = .ok (.iconst 0, 1) := by decide +kernel
theorem dX12_halves_43 : decode cX12_halves 43 = .ok (.istore_n 3, 1) := by decide +kernel
theorem dX12_halves_44 : decode cX12_halves 44 = .ok (.aload_n 0, 1) := by decide +kernel
theorem dX12_halves_45 : decode cX12_halves 45 = .ok (.getfield 7, 3) := by decide +kernel
theorem dX12_halves_48 : decode cX12_halves 48 = .ok (.bipush 66, 2) := by decide +kernel
theorem dX12_halves_50 : decode cX12_halves 50 = .ok (.iload_n 1, 1) := by decide +kernel
theorem dX12_halves_51 : decode cX12_halves 51 = .ok (.imul, 1) := by decide +kernel
theorem dX12_halves_52 : decode cX12_halves 52 = .ok (.iload_n 2, 1) := by decide +kernel
theorem dX12_halves_53 : decode cX12_halves 53 = .ok (.iadd, 1) := by decide +kernel
theorem dX12_halves_54 : decode cX12_halves 54 = .ok (.aload_n 0, 1) := by decide +kernel
theorem dX12_halves_55 : decode cX12_halves 55 = .ok (.getfield 7, 3) := by decide +kernel
theorem dX12_halves_58 : decode cX12_halves 58 = .ok (.bipush 66, 2) := by decide +kernel
theorem dX12_halves_60 : decode cX12_halves 60 = .ok (.iload_n 1, 1) := by decide +kernel
theorem dX12_halves_61 : decode cX12_halves 61 = .ok (.imul, 1) := by decide +kernel
theorem dX12_halves_62 : decode cX12_halves 62 = .ok (.iload_n 2, 1) := by decide +kernel
theorem dX12_halves_63 : decode cX12_halves 63 = .ok (.iadd, 1) := by decide +kernel
theorem dX12_halves_64 : decode cX12_halves 64 = .ok (.iaload, 1) := by decide +kernel
theorem dX12_halves_65 : decode cX12_halves 65 = .ok (.iconst 1, 1) := by decide +kernel
theorem dX12_halves_66 : decode cX12_halves 66 = .ok (.ishr, 1) := by decide +kernel
theorem dX12_halves_67 : decode cX12_halves 67 = .ok (.iload_n 3, 1) := by decide +kernel
theorem dX12_halves_68 : decode cX12_halves 68 = .ok (.bipush 29, 2) := by decide +kernel
theorem dX12_halves_70 : decode cX12_halves 70 = .ok (.ishl, 1) := by decide +kernel
theorem dX12_halves_71 : decode cX12_halves 71 = .ok (.ior, 1) := by decide +kernel
theorem dX12_halves_72 : decode cX12_halves 72 = .ok (.iastore, 1) := by decide +kernel
theorem dX12_halves_73 : decode cX12_halves 73 = .ok (.iinc 2 1, 3) := by decide +kernel
theorem dX12_halves_76 : decode cX12_halves 76 = .ok (.goto (-74), 3) := by decide +kernel
theorem dX12_halves_79 : decode cX12_halves 79 = .ok (.aload_n 0, 1) := by decide +kernel
theorem dX12_halves_80 : decode cX12_halves 80 = .ok (.iload_n 1, 1) := by decide +kernel
theorem dX12_halves_81 : decode cX12_halves 81 = .ok (.invokevirtual 68, 3) := by decide +kernel
theorem dX12_halves_84 : decode cX12_halves 84 = .ok (.return_, 1) := by decide +kernel
theorem dX12_lowers_0 : decode cX12_lowers 0 = .ok (.aload_n 0, 1) := by decide +kernel
theorem dX12_lowers_1 : decode cX12_lowers 1 = .ok (.getfield 13, 3) := by decide +kernel
theorem dX12_lowers_4 : decode cX12_lowers 4 = .ok (.iconst 0, 1) := by decide +kernel
theorem dX12_lowers_5 : decode cX12_lowers 5 = .ok (.iaload, 1) := by decide +kernel
theorem dX12_lowers_6 : decode cX12_lowers 6 = .ok (.ifCond .ne 10, 3) := by decide +kernel
theorem dX12_lowers_9 : decode cX12_lowers 9 = .ok (.aload_n 0, 1) := by decide +kernel
theorem dX12_lowers_10 : decode cX12_lowers 10 = .ok (.iconst 1, 1) := by decide +kernel
theorem dX12_lowers_11 : decode cX12_lowers 11 = .ok (.lconst 1, 1) := by decide +kernel
theorem dX12_lowers_12 : decode cX12_lowers 12 = .ok (.invokevirtual 63, 3) := by decide +kernel
theorem dX12_lowers_15 : decode cX12_lowers 15 = .ok (.return_, 1) := by decide +kernel
theorem dX12_lowers_16 : decode cX12_lowers 16 = .ok (.aload_n 0, 1) := by decide +kernel
theorem dX12_lowers_17 : decode cX12_lowers 17 = .ok (.iconst 0, 1) := by decide +kernel
theorem dX12_lowers_18 : decode cX12_lowers 18 = .ok (.invokevirtual 73, 3) := by decide +kernel
theorem dX12_lowers_21 : decode cX12_lowers 21 = .ok (.ifCond .eq 24, 3) := by decide +kernel
theorem dX12_lowers_24 : decode cX12_lowers 24 = .ok (.aload_n 0, 1) := by decide +kernel
theorem dX12_lowers_25 : decode cX12_lowers 25 = .ok (.iconst 1, 1) := by decide +kernel
theorem dX12_lowers_26 : decode cX12_lowers 26 = .ok (.invokevirtual 73, 3) := by decide +kernel
theorem dX12_lowers_29 : decode cX12_lowers 29 = .ok (.ifCond .eq 16, 3) := by decide +kernel
theorem dX12_lowers_32 : decode cX12_lowers 32 = .ok (.aload_n 0, 1) := by decide +kernel
theorem dX12_lowers_33 : decode cX12_lowers 33 = .ok (.iconst 0, 1) := by decide +kernel
theorem dX12_lowers_34 : decode cX12_lowers 34 = .ok (.invokevirtual 77, 3) := by decide +kernel
theorem dX12_lowers_37 : decode cX12_lowers 37 = .ok (.aload_n 0, 1) := by decide +kernel
theorem dX12_lowers_38 : decode cX12_lowers 38 = .ok (.iconst 1, 1) := by decide +kernel
theorem dX12_lowers_39 : decode cX12_lowers 39 = .ok (.invokevirtual 77, 3) := by decide +kernel
theorem dX12_lowers_42 : decode cX12_lowers 42 = .ok (.goto (-26), 3) := by decide +kernel
theorem dX12_lowers_45 : decode cX12_lowers 45 = .ok (.aload_n 0, 1) := by decide +kernel
theorem dX12_lowers_46 : decode cX12_lowers 46 = .ok (.iconst 2, 1) := by decide +kernel
theorem dX12_lowers_47 : decode cX12_lowers 47 = .ok (.iconst 0, 1) := by decide +kernel
theorem dX12_lowers_48 : decode cX12_lowers 48 = .ok (.invokevirtual 80, 3) := by decide +kernel
theorem dX12_lowers_51 : decode cX12_lowers 51 = .ok (.aload_n 0, 1) := by decide +kernel
theorem dX12_lowers_52 : decode cX12_lowers 52 = .ok (.iconst 3, 1) := by decide +kernel
theorem dX12_lowers_53 : decode cX12_lowers 53 = .ok (.iconst 1, 1) := by decide +kernel
theorem dX12_lowers_54 : decode cX12_lowers 54 = .ok (.invokevirtual 80, 3) := by decide +kernel
theorem dX12_lowers_57 : decode cX12_lowers 57 = .ok (.aload_n 0, 1) := by decide +kernel
theorem dX12_lowers_58 : decode cX12_lowers 58 = .ok (.getfield 13, 3) := by decide +kernel
theorem dX12_lowers_61 : decode cX12_lowers 61 = .ok (.iconst 2, 1) := by decide +kernel
theorem dX12_lowers_62 : decode cX12_lowers 62 = .ok (.iaload, 1) := by decide +kernel
theorem dX12_lowers_63 : decode cX12_lowers 63 = .ok (.ifCond .le 82, 3) := by decide +kernel
theorem dX12_lowers_66 : decode cX12_lowers 66 = .ok (.aload_n 0, 1) := by decide +kernel
theorem dX12_lowers_67 : decode cX12_lowers 67 = .ok (.iconst 2, 1) := by decide +kernel
theorem dX12_lowers_68 : decode cX12_lowers 68 = .ok (.invokevirtual 73, 3) := by decide +kernel
theorem dX12_lowers_71 : decode cX12_lowers 71 = .ok (.ifCond .eq 11, 3) := by decide +kernel
theorem dX12_lowers_74 : decode cX12_lowers 74 = .ok (.aload_n 0, 1) := by decide +kernel
theorem dX12_lowers_75 : decode cX12_lowers 75 = .ok (.iconst 2, 1) := by decide +kernel
theorem dX12_lowers_76 : decode cX12_lowers 76 = .ok (.invokevirtual 77, 3) := by decide +kernel
theorem dX12_lowers_79 : decode cX12_lowers 79 = .ok (.goto (-13), 3) := by decide +kernel
theorem dX12_lowers_82 : decode cX12_lowers 82 = .ok (.aload_n 0, 1) := by decide +kernel
theorem dX12_lowers_83 : decode cX12_lowers 83 = .ok (.iconst 3, 1) := by decide +kernel
theorem dX12_lowers_84 : decode cX12_lowers 84 = .ok (.invokevirtual 73, 3) := by decide +kernel
theorem dX12_lowers_87 : decode cX12_lowers 87 = .ok (.ifCond .eq 11, 3) := by decide +kernel
theorem dX12_lowers_90 : decode cX12_lowers 90 = .ok (.aload_n 0, 1) := by decide +kernel
theorem dX12_lowers_91 : decode cX12_lowers 91 = .ok (.iconst 3, 1) := by decide +kernel
theorem dX12_lowers_92 : decode cX12_lowers 92 = .ok (.invokevirtual 77, 3) := by decide +kernel
theorem dX12_lowers_95 : decode cX12_lowers 95 = .ok (.goto (-13), 3) := by decide +kernel
theorem dX12_lowers_98 : decode cX12_lowers 98 = .ok (.aload_n 0, 1) := by decide +kernel
theorem dX12_lowers_99 : decode cX12_lowers 99 = .ok (.iconst 2, 1) := by decide +kernel
theorem dX12_lowers_100 : decode cX12_lowers 100 = .ok (.iconst 3, 1) := by decide +kernel
theorem dX12_lowers_101 : decode cX12_lowers 101 = .ok (.invokevirtual 84, 3) := by decide +kernel
theorem dX12_lowers_104 : decode cX12_lowers 104 = .ok (.ifCond .lt 7, 3) := by decide +kernel
theorem dX12_lowers_107 : decode cX12_lowers 107 = .ok (.iconst 2, 1) := by decide +kernel
theorem dX12_lowers_108 : decode cX12_lowers 108 = .ok (.goto 4, 3) := by decide +kernel
theorem dX12_lowers_111 : decode cX12_lowers 111 = .ok (.iconst 3, 1) := by decide +kernel
theorem dX12_lowers_112 : decode cX12_lowers 112 = .ok (.istore_n 1, 1) := by decide +kernel
theorem dX12_lowers_113 : decode cX12_lowers 113 = .ok (.aload_n 0, 1) := by decide +kernel
theorem dX12_lowers_114 : decode cX12_lowers 114 = .ok (.iload_n 1, 1) := by decide +kernel
theorem dX12_lowers_115 : decode cX12_lowers 115 = .ok (.iconst 5, 1) := by decide +kernel
theorem dX12_lowers_116 : decode cX12_lowers 116 = .ok (.iload_n 1, 1) := by decide +kernel
theorem dX12_lowers_117 : decode cX12_lowers 117 = .ok (.isub, 1) := by decide +kernel
theorem dX12_lowers_118 : decode cX12_lowers 118 = .ok (.invokevirtual 88, 3) := by decide +kernel
theorem dX12_lowers_121 : decode cX12_lowers 121 = .ok (.aload_n 0, 1) := by decide +kernel
theorem dX12_lowers_122 : decode cX12_lowers 122 = .ok (.getfield 13, 3) := by decide +kernel
theorem dX12_lowers_125 : decode cX12_lowers 125 = .ok (.iconst 3, 1) := by decide +kernel
theorem dX12_lowers_126 : decode cX12_lowers 126 = .ok (.iaload, 1) := by decide +kernel
theorem dX12_lowers_127 : decode cX12_lowers 127 = .ok (.ifCond .ne 15, 3) := by decide +kernel
theorem dX12_lowers_130 : decode cX12_lowers 130 = .ok (.aload_n 0, 1) := by decide +kernel
theorem dX12_lowers_131 : decode cX12_lowers 131 = .ok (.iconst 3, 1) := by decide +kernel
theorem dX12_lowers_132 : decode cX12_lowers 132 = .ok (.iconst 2, 1) := by decide +kernel
theorem dX12_lowers_133 : decode cX12_lowers 133 = .ok (.invokevirtual 80, 3) := by decide +kernel
theorem dX12_lowers_136 : decode cX12_lowers 136 = .ok (.aload_n 0, 1) := by decide +kernel
theorem dX12_lowers_137 : decode cX12_lowers 137 = .ok (.iconst 2, 1) := by decide +kernel
theorem dX12_lowers_138 : decode cX12_lowers 138 = .ok (.lconst 0, 1) := by decide +kernel
theorem dX12_lowers_139 : decode cX12_lowers 139 = .ok (.invokevirtual 63, 3) := by decide +kernel
theorem dX12_lowers_142 : decode cX12_lowers 142 = .ok (.goto (-85), 3) := by decide +kernel
theorem dX12_lowers_145 : decode cX12_lowers 145 = .ok (.aload_n 0, 1) := by decide +kernel
theorem dX12_lowers_146 : decode cX12_lowers 146 = .ok (.iconst 0, 1) := by decide +kernel
theorem dX12_lowers_147 : decode cX12_lowers 147 = .ok (.invokevirtual 91, 3) := by decide +kernel
theorem dX12_lowers_150 : decode cX12_lowers 150 = .ok (.aload_n 0, 1) := by decide +kernel
theorem dX12_lowers_151 : decode cX12_lowers 151 = .ok (.iconst 1, 1) := by decide +kernel
theorem dX12_lowers_152 : decode cX12_lowers 152 = .ok (.invokevirtual 91, 3) := by decide +kernel
theorem dX12_lowers_155 : decode cX12_lowers 155 = .ok (.return_, 1) := by decide +kernel
theorem dX12_parts_0 : decode cX12_parts 0 = .ok (.iconst 1, 1) := by decide +kernel
theorem dX12_parts_1 : decode cX12_parts 1 = .ok (.istore_n 2, 1) := by decide +kernel
theorem dX12_parts_2 : decode cX12_parts 2 = .ok (.iconst 0, 1) := by decide +kernel
theorem dX12_parts_3 : decode cX12_parts 3 = .ok (.istore_n 3, 1) := by decide +kernel
theorem dX12_parts_4 : decode cX12_parts 4 = .ok (.iload_n 3, 1) := by decide +kernel
theorem dX12_parts_5 : decode cX12_parts 5 = .ok (.iconst 5, 1) := by decide +kernel
theorem dX12_parts_6 : decode cX12_parts 6 = .ok (.if_icmp .ge 24, 3) := by decide +kernel
theorem dX12_parts_9 : decode cX12_parts 9 = .ok (.iload_n 2, 1) := by decide +kernel
theorem dX12_parts_10 : decode cX12_parts 10 = .ok (.iconst 2, 1) := by decide +kernel
theorem dX12_parts_11 : decode cX12_parts 11 = .ok (.aload_n 0, 1) := by decide +kernel
theorem dX12_parts_12 : decode cX12_parts 12 = .ok (.getfield 7, 3) := by decide +kernel
theorem dX12_parts_15 : decode cX12_parts 15 = .ok (.sipush 198, 3) := by decide +kernel
theorem dX12_parts_18 : decode cX12_parts 18 = .ok (.iaload, 1) := by decide +kernel
theorem dX12_parts_19 : decode cX12_parts 19 = .ok (.iload_n 2, 1) := by decide +kernel
theorem dX12_parts_20 : decode cX12_parts 20 = .ok (.imul, 1) := by decide +kernel
theorem dX12_parts_21 : decode cX12_parts 21 = .ok (.isub, 1) := by decide +kernel
theorem dX12_parts_22 : decode cX12_parts 22 = .ok (.imul, 1) := by decide +kernel
theorem dX12_parts_23 : decode cX12_parts 23 = .ok (.istore_n 2, 1) := by decide +kernel
theorem dX12_parts_24 : decode cX12_parts 24 = .ok (.iinc 3 1, 3) := by decide +kernel
theorem dX12_parts_27 : decode cX12_parts 27 = .ok (.goto (-23), 3) := by decide +kernel
theorem dX12_parts_30 : decode cX12_parts 30 = .ok (.aload_n 0, 1) := by decide +kernel
theorem dX12_parts_31 : decode cX12_parts 31 = .ok (.getfield 13, 3) := by decide +kernel
theorem dX12_parts_34 : decode cX12_parts 34 = .ok (.iload_n 1, 1) := by decide +kernel
theorem dX12_parts_35 : decode cX12_parts 35 = .ok (.iaload, 1) := by decide +kernel
theorem dX12_parts_36 : decode cX12_parts 36 = .ok (.istore_n 3, 1) := by decide +kernel
theorem dX12_parts_37 : decode cX12_parts 37 = .ok (.iconst 0, 1) := by decide +kernel
theorem dX12_parts_38 : decode cX12_parts 38 = .ok (.istore 4, 2) := by decide +kernel
theorem dX12_parts_40 : decode cX12_parts 40 = .ok (.iload 4, 2) := by decide +kernel
theorem dX12_parts_42 : decode cX12_parts 42 = .ok (.iload_n 3, 1) := by decide +kernel
theorem dX12_parts_43 : decode cX12_parts 43 = .ok (.if_icmp .ge 149, 3) := by decide +kernel
theorem dX12_parts_46 : decode cX12_parts 46 = .ok (.aload_n 0, 1) := by decide +kernel
theorem dX12_parts_47 : decode cX12_parts 47 = .ok (.getfield 7, 3) := by decide +kernel
theorem dX12_parts_50 : decode cX12_parts 50 = .ok (.bipush 66, 2) := by decide +kernel
theorem dX12_parts_52 : decode cX12_parts 52 = .ok (.iload_n 1, 1) := by decide +kernel
theorem dX12_parts_53 : decode cX12_parts 53 = .ok (.imul, 1) := by decide +kernel
theorem dX12_parts_54 : decode cX12_parts 54 = .ok (.iload 4, 2) := by decide +kernel
theorem dX12_parts_56 : decode cX12_parts 56 = .ok (.iadd, 1) := by decide +kernel
theorem dX12_parts_57 : decode cX12_parts 57 = .ok (.iaload, 1) := by decide +kernel
theorem dX12_parts_58 : decode cX12_parts 58 = .ok (.iload_n 2, 1) := by decide +kernel
theorem dX12_parts_59 : decode cX12_parts 59 = .ok (.imul, 1) := by decide +kernel
theorem dX12_parts_60 : decode cX12_parts 60 = .ok (.ldc 72, 2) := by decide +kernel
theorem dX12_parts_62 : decode cX12_parts 62 = .ok (.iand, 1) := by decide +kernel
theorem dX12_parts_63 : decode cX12_parts 63 = .ok (.istore 5, 2) := by decide +kernel
theorem dX12_parts_65 : decode cX12_parts 65 = .ok (.lconst 0, 1) := by decide +kernel
theorem dX12_parts_66 : decode cX12_parts 66 = .ok (.lstore 6, 2) := by decide +kernel
theorem dX12_parts_68 : decode cX12_parts 68 = .ok (.iconst 0, 1) := by decide +kernel
theorem dX12_parts_69 : decode cX12_parts 69 = .ok (.istore 8, 2) := by decide +kernel
theorem dX12_parts_71 : decode cX12_parts 71 = .ok (.iload 4, 2) := by decide +kernel
theorem dX12_parts_73 : decode cX12_parts 73 = .ok (.iload 8, 2) := by decide +kernel
theorem dX12_parts_75 : decode cX12_parts 75 = .ok (.iadd, 1) := by decide +kernel
theorem dX12_parts_76 : decode cX12_parts 76 = .ok (.iload_n 3, 1) := by decide +kernel
theorem dX12_parts_77 : decode cX12_parts 77 = .ok (.if_icmp .ge 96, 3) := by decide +kernel
theorem dX12_parts_80 : decode cX12_parts 80 = .ok (.iload 8, 2) := by decide +kernel
theorem dX12_parts_82 : decode cX12_parts 82 = .ok (.aload_n 0, 1) := by decide +kernel
theorem dX12_parts_83 : decode cX12_parts 83 = .ok (.getfield 13, 3) := by decide +kernel
theorem dX12_parts_86 : decode cX12_parts 86 = .ok (.iconst 3, 1) := by decide +kernel
theorem dX12_parts_87 : decode cX12_parts 87 = .ok (.iaload, 1) := by decide +kernel
theorem dX12_parts_88 : decode cX12_parts 88 = .ok (.if_icmp .ge 22, 3) := by decide +kernel
theorem dX12_parts_91 : decode cX12_parts 91 = .ok (.iload 5, 2) := by decide +kernel
theorem dX12_parts_93 : decode cX12_parts 93 = .ok (.i2l, 1) := by decide +kernel
theorem dX12_parts_94 : decode cX12_parts 94 = .ok (.aload_n 0, 1) := by decide +kernel
theorem dX12_parts_95 : decode cX12_parts 95 = .ok (.getfield 7, 3) := by decide +kernel
theorem dX12_parts_98 : decode cX12_parts 98 = .ok (.sipush 198, 3) := by decide +kernel
theorem dX12_parts_101 : decode cX12_parts 101 = .ok (.iload 8, 2) := by decide +kernel
theorem dX12_parts_103 : decode cX12_parts 103 = .ok (.iadd, 1) := by decide +kernel
theorem dX12_parts_104 : decode cX12_parts 104 = .ok (.iaload, 1) := by decide +kernel
theorem dX12_parts_105 : decode cX12_parts 105 = .ok (.i2l, 1) := by decide +kernel
theorem dX12_parts_106 : decode cX12_parts 106 = .ok (.lmul, 1) := by decide +kernel
theorem dX12_parts_107 : decode cX12_parts 107 = .ok (.goto 4, 3) := by decide +kernel
theorem dX12_parts_110 : decode cX12_parts 110 = .ok (.lconst 0, 1) := by decide +kernel
theorem dX12_parts_111 : decode cX12_parts 111 = .ok (.lstore 9, 2) := by decide +kernel
theorem dX12_parts_113 : decode cX12_parts 113 = .ok (.aload_n 0, 1) := by decide +kernel
theorem dX12_parts_114 : decode cX12_parts 114 = .ok (.getfield 7, 3) := by decide +kernel
theorem dX12_parts_117 : decode cX12_parts 117 = .ok (.bipush 66, 2) := by decide +kernel
theorem dX12_parts_119 : decode cX12_parts 119 = .ok (.iload_n 1, 1) := by decide +kernel
theorem dX12_parts_120 : decode cX12_parts 120 = .ok (.imul, 1) := by decide +kernel
theorem dX12_parts_121 : decode cX12_parts 121 = .ok (.iload 4, 2) := by decide +kernel
theorem dX12_parts_123 : decode cX12_parts 123 = .ok (.iadd, 1) := by decide +kernel
theorem dX12_parts_124 : decode cX12_parts 124 = .ok (.iload 8, 2) := by decide +kernel
theorem dX12_parts_126 : decode cX12_parts 126 = .ok (.iadd, 1) := by decide +kernel
theorem dX12_parts_127 : decode cX12_parts 127 = .ok (.iaload, 1) := by decide +kernel
theorem dX12_parts_128 : decode cX12_parts 128 = .ok (.i2l, 1) := by decide +kernel
theorem dX12_parts_129 : decode cX12_parts 129 = .ok (.lload 9, 2) := by decide +kernel
theorem dX12_parts_131 : decode cX12_parts 131 = .ok (.lsub, 1) := by decide +kernel
theorem dX12_parts_132 : decode cX12_parts 132 = .ok (.lload 6, 2) := by decide +kernel
theorem dX12_parts_134 : decode cX12_parts 134 = .ok (.lsub, 1) := by decide +kernel
theorem dX12_parts_135 : decode cX12_parts 135 = .ok (.lstore 11, 2) := by decide +kernel
theorem dX12_parts_137 : decode cX12_parts 137 = .ok (.aload_n 0, 1) := by decide +kernel
theorem dX12_parts_138 : decode cX12_parts 138 = .ok (.getfield 7, 3) := by decide +kernel
theorem dX12_parts_141 : decode cX12_parts 141 = .ok (.bipush 66, 2) := by decide +kernel
theorem dX12_parts_143 : decode cX12_parts 143 = .ok (.iload_n 1, 1) := by decide +kernel
theorem dX12_parts_144 : decode cX12_parts 144 = .ok (.imul, 1) := by decide +kernel
theorem dX12_parts_145 : decode cX12_parts 145 = .ok (.iload 4, 2) := by decide +kernel
theorem dX12_parts_147 : decode cX12_parts 147 = .ok (.iadd, 1) := by decide +kernel
theorem dX12_parts_148 : decode cX12_parts 148 = .ok (.iload 8, 2) := by decide +kernel
theorem dX12_parts_150 : decode cX12_parts 150 = .ok (.iadd, 1) := by decide +kernel
theorem dX12_parts_151 : decode cX12_parts 151 = .ok (.lload 11, 2) := by decide +kernel
theorem dX12_parts_153 : decode cX12_parts 153 = .ok (.ldc2_w 66, 3) := by decide +kernel
theorem dX12_parts_156 : decode cX12_parts 156 = .ok (.land, 1) := by decide +kernel
theorem dX12_parts_157 : decode cX12_parts 157 = .ok (.l2i, 1) := by decide +kernel
theorem dX12_parts_158 : decode cX12_parts 158 = .ok (.iastore, 1) := by decide +kernel
theorem dX12_parts_159 : decode cX12_parts 159 = .ok (.lload 11, 2) := by decide +kernel
theorem dX12_parts_161 : decode cX12_parts 161 = .ok (.bipush 30, 2) := by decide +kernel
theorem dX12_parts_163 : decode cX12_parts 163 = .ok (.lshr, 1) := by decide +kernel
theorem dX12_parts_164 : decode cX12_parts 164 = .ok (.lneg, 1) := by decide +kernel
theorem dX12_parts_165 : decode cX12_parts 165 = .ok (.lstore 6, 2) := by decide +kernel
theorem dX12_parts_167 : decode cX12_parts 167 = .ok (.iinc 8 1, 3) := by decide +kernel
theorem dX12_parts_170 : decode cX12_parts 170 = .ok (.goto (-99), 3) := by decide +kernel
theorem dX12_parts_173 : decode cX12_parts 173 = .ok (.aload_n 0, 1) := by decide +kernel
theorem dX12_parts_174 : decode cX12_parts 174 = .ok (.getfield 7, 3) := by decide +kernel
theorem dX12_parts_177 : decode cX12_parts 177 = .ok (.sipush 264, 3) := by decide +kernel
theorem dX12_parts_180 : decode cX12_parts 180 = .ok (.iload 4, 2) := by decide +kernel
theorem dX12_parts_182 : decode cX12_parts 182 = .ok (.iadd, 1) := by decide +kernel
theorem dX12_parts_183 : decode cX12_parts 183 = .ok (.iload 5, 2) := by decide +kernel
theorem dX12_parts_185 : decode cX12_parts 185 = .ok (.iastore, 1) := by decide +kernel
theorem dX12_parts_186 : decode cX12_parts 186 = .ok (.iinc 4 1, 3) := by decide +kernel
theorem dX12_parts_189 : decode cX12_parts 189 = .ok (.goto (-149), 3) := by decide +kernel
theorem dX12_parts_192 : decode cX12_parts 192 = .ok (.iconst 0, 1) := by decide +kernel
theorem dX12_parts_193 : decode cX12_parts 193 = .ok (.istore 4, 2) := by decide +kernel
theorem dX12_parts_195 : decode cX12_parts 195 = .ok (.iload 4, 2) := by decide +kernel
theorem dX12_parts_197 : decode cX12_parts 197 = .ok (.iload_n 3, 1) := by decide +kernel
theorem dX12_parts_198 : decode cX12_parts 198 = .ok (.if_icmp .ge 32, 3) := by decide +kernel
theorem dX12_parts_201 : decode cX12_parts 201 = .ok (.aload_n 0, 1) := by decide +kernel
theorem dX12_parts_202 : decode cX12_parts 202 = .ok (.getfield 7, 3) := by decide +kernel
theorem dX12_parts_205 : decode cX12_parts 205 = .ok (.bipush 66, 2) := by decide +kernel
theorem dX12_parts_207 : decode cX12_parts 207 = .ok (.iload_n 1, 1) := by decide +kernel
theorem dX12_parts_208 : decode cX12_parts 208 = .ok (.imul, 1) := by decide +kernel
theorem dX12_parts_209 : decode cX12_parts 209 = .ok (.iload 4, 2) := by decide +kernel
theorem dX12_parts_211 : decode cX12_parts 211 = .ok (.iadd, 1) := by decide +kernel
theorem dX12_parts_212 : decode cX12_parts 212 = .ok (.aload_n 0, 1) := by decide +kernel
theorem dX12_parts_213 : decode cX12_parts 213 = .ok (.getfield 7, 3) := by decide +kernel
theorem dX12_parts_216 : decode cX12_parts 216 = .ok (.sipush 264, 3) := by decide +kernel
theorem dX12_parts_219 : decode cX12_parts 219 = .ok (.iload 4, 2) := by decide +kernel
theorem dX12_parts_221 : decode cX12_parts 221 = .ok (.iadd, 1) := by decide +kernel
theorem dX12_parts_222 : decode cX12_parts 222 = .ok (.iaload, 1) := by decide +kernel
theorem dX12_parts_223 : decode cX12_parts 223 = .ok (.iastore, 1) := by decide +kernel
theorem dX12_parts_224 : decode cX12_parts 224 = .ok (.iinc 4 1, 3) := by decide +kernel
theorem dX12_parts_227 : decode cX12_parts 227 = .ok (.goto (-32), 3) := by decide +kernel
theorem dX12_parts_230 : decode cX12_parts 230 = .ok (.aload_n 0, 1) := by decide +kernel
theorem dX12_parts_231 : decode cX12_parts 231 = .ok (.iload_n 1, 1) := by decide +kernel
theorem dX12_parts_232 : decode cX12_parts 232 = .ok (.invokevirtual 68, 3) := by decide +kernel
theorem dX12_parts_235 : decode cX12_parts 235 = .ok (.return_, 1) := by decide +kernel
theorem dX12_tells_0 : decode cX12_tells 0 = .ok (.aload_n 0, 1) := by decide +kernel
theorem dX12_tells_1 : decode cX12_tells 1 = .ok (.iconst 0, 1) := by decide +kernel
theorem dX12_tells_2 : decode cX12_tells 2 = .ok (.lload_n 1, 1) := by decide +kernel
theorem dX12_tells_3 : decode cX12_tells 3 = .ok (.invokevirtual 63, 3) := by decide +kernel
theorem dX12_tells_6 : decode cX12_tells 6 = .ok (.aload_n 0, 1) := by decide +kernel
theorem dX12_tells_7 : decode cX12_tells 7 = .ok (.iconst 1, 1) := by decide +kernel
theorem dX12_tells_8 : decode cX12_tells 8 = .ok (.lload_n 3, 1) := by decide +kernel
theorem dX12_tells_9 : decode cX12_tells 9 = .ok (.invokevirtual 63, 3) := by decide +kernel
theorem dX12_tells_12 : decode cX12_tells 12 = .ok (.aload_n 0, 1) := by decide +kernel
theorem dX12_tells_13 : decode cX12_tells 13 = .ok (.invokevirtual 94, 3) := by decide +kernel
theorem dX12_tells_16 : decode cX12_tells 16 = .ok (.iconst 1, 1) := by decide +kernel
theorem dX12_tells_17 : decode cX12_tells 17 = .ok (.ireturn, 1) := by decide +kernel
theorem dX12_sign_0 : decode cX12_sign 0 = .ok (.iload_n 1, 1) := by decide +kernel
theorem dX12_sign_1 : decode cX12_sign 1 = .ok (.ifCond .ne 20, 3) := by decide +kernel
theorem dX12_sign_4 : decode cX12_sign 4 = .ok (.aload_n 0, 1) := by decide +kernel
theorem dX12_sign_5 : decode cX12_sign 5 = .ok (.getfield 13, 3) := by decide +kernel
theorem dX12_sign_8 : decode cX12_sign 8 = .ok (.iconst 0, 1) := by decide +kernel
theorem dX12_sign_9 : decode cX12_sign 9 = .ok (.iaload, 1) := by decide +kernel
theorem dX12_sign_10 : decode cX12_sign 10 = .ok (.ifCond .le 7, 3) := by decide +kernel
theorem dX12_sign_13 : decode cX12_sign 13 = .ok (.iconst 1, 1) := by decide +kernel
theorem dX12_sign_14 : decode cX12_sign 14 = .ok (.goto 37, 3) := by decide +kernel
theorem dX12_sign_17 : decode cX12_sign 17 = .ok (.iconst 0, 1) := by decide +kernel
theorem dX12_sign_18 : decode cX12_sign 18 = .ok (.goto 33, 3) := by decide +kernel
theorem dX12_sign_21 : decode cX12_sign 21 = .ok (.iload_n 1, 1) := by decide +kernel
theorem dX12_sign_22 : decode cX12_sign 22 = .ok (.iconst 1, 1) := by decide +kernel
theorem dX12_sign_23 : decode cX12_sign 23 = .ok (.if_icmp .ne 12, 3) := by decide +kernel
theorem dX12_sign_26 : decode cX12_sign 26 = .ok (.aload_n 0, 1) := by decide +kernel
theorem dX12_sign_27 : decode cX12_sign 27 = .ok (.getfield 13, 3) := by decide +kernel
theorem dX12_sign_30 : decode cX12_sign 30 = .ok (.iconst 0, 1) := by decide +kernel
theorem dX12_sign_31 : decode cX12_sign 31 = .ok (.iaload, 1) := by decide +kernel
theorem dX12_sign_32 : decode cX12_sign 32 = .ok (.goto 19, 3) := by decide +kernel
theorem dX12_sign_35 : decode cX12_sign 35 = .ok (.iload_n 1, 1) := by decide +kernel
theorem dX12_sign_36 : decode cX12_sign 36 = .ok (.iconst 2, 1) := by decide +kernel
theorem dX12_sign_37 : decode cX12_sign 37 = .ok (.if_icmp .ne 12, 3) := by decide +kernel
theorem dX12_sign_40 : decode cX12_sign 40 = .ok (.aload_n 0, 1) := by decide +kernel
theorem dX12_sign_41 : decode cX12_sign 41 = .ok (.getfield 13, 3) := by decide +kernel
theorem dX12_sign_44 : decode cX12_sign 44 = .ok (.iconst 1, 1) := by decide +kernel
theorem dX12_sign_45 : decode cX12_sign 45 = .ok (.iaload, 1) := by decide +kernel
theorem dX12_sign_46 : decode cX12_sign 46 = .ok (.goto 5, 3) := by decide +kernel
theorem dX12_sign_49 : decode cX12_sign 49 = .ok (.bipush (-2), 2) := by decide +kernel
theorem dX12_sign_51 : decode cX12_sign 51 = .ok (.ireturn, 1) := by decide +kernel
theorem dX12_limb_0 : decode cX12_limb 0 = .ok (.iload_n 1, 1) := by decide +kernel
theorem dX12_limb_1 : decode cX12_limb 1 = .ok (.i2l, 1) := by decide +kernel
theorem dX12_limb_2 : decode cX12_limb 2 = .ok (.lconst 0, 1) := by decide +kernel
theorem dX12_limb_3 : decode cX12_limb 3 = .ok (.lconst 1, 1) := by decide +kernel
theorem dX12_limb_4 : decode cX12_limb 4 = .ok (.invokestatic 97, 3) := by decide +kernel
theorem dX12_limb_7 : decode cX12_limb 7 = .ok (.ifCond .eq 7, 3) := by decide +kernel
theorem dX12_limb_10 : decode cX12_limb 10 = .ok (.iload_n 2, 1) := by decide +kernel
theorem dX12_limb_11 : decode cX12_limb 11 = .ok (.ifCond .ge 6, 3) := by decide +kernel
theorem dX12_limb_14 : decode cX12_limb 14 = .ok (.bipush (-2), 2) := by decide +kernel
theorem dX12_limb_16 : decode cX12_limb 16 = .ok (.ireturn, 1) := by decide +kernel
theorem dX12_limb_17 : decode cX12_limb 17 = .ok (.iload_n 2, 1) := by decide +kernel
theorem dX12_limb_18 : decode cX12_limb 18 = .ok (.aload_n 0, 1) := by decide +kernel
theorem dX12_limb_19 : decode cX12_limb 19 = .ok (.getfield 13, 3) := by decide +kernel
theorem dX12_limb_22 : decode cX12_limb 22 = .ok (.iload_n 1, 1) := by decide +kernel
theorem dX12_limb_23 : decode cX12_limb 23 = .ok (.iaload, 1) := by decide +kernel
theorem dX12_limb_24 : decode cX12_limb 24 = .ok (.if_icmp .ge 17, 3) := by decide +kernel
theorem dX12_limb_27 : decode cX12_limb 27 = .ok (.aload_n 0, 1) := by decide +kernel
theorem dX12_limb_28 : decode cX12_limb 28 = .ok (.getfield 7, 3) := by decide +kernel
theorem dX12_limb_31 : decode cX12_limb 31 = .ok (.bipush 66, 2) := by decide +kernel
theorem dX12_limb_33 : decode cX12_limb 33 = .ok (.iload_n 1, 1) := by decide +kernel
theorem dX12_limb_34 : decode cX12_limb 34 = .ok (.imul, 1) := by decide +kernel
theorem dX12_limb_35 : decode cX12_limb 35 = .ok (.iload_n 2, 1) := by decide +kernel
theorem dX12_limb_36 : decode cX12_limb 36 = .ok (.iadd, 1) := by decide +kernel
theorem dX12_limb_37 : decode cX12_limb 37 = .ok (.iaload, 1) := by decide +kernel
theorem dX12_limb_38 : decode cX12_limb 38 = .ok (.goto 4, 3) := by decide +kernel
theorem dX12_limb_41 : decode cX12_limb 41 = .ok (.iconst (-1), 1) := by decide +kernel
theorem dX12_limb_42 : decode cX12_limb 42 = .ok (.ireturn, 1) := by decide +kernel
theorem dX12_of_0 : decode cX12_of 0 = .ok (.aload_n 0, 1) := by decide +kernel
theorem dX12_of_1 : decode cX12_of 1 = .ok (.getfield 16, 3) := by decide +kernel
theorem dX12_of_4 : decode cX12_of 4 = .ok (.bipush 6, 2) := by decide +kernel
theorem dX12_of_6 : decode cX12_of 6 = .ok (.iload_n 1, 1) := by decide +kernel
theorem dX12_of_7 : decode cX12_of 7 = .ok (.imul, 1) := by decide +kernel
theorem dX12_of_8 : decode cX12_of 8 = .ok (.iload_n 2, 1) := by decide +kernel
theorem dX12_of_9 : decode cX12_of 9 = .ok (.iadd, 1) := by decide +kernel
theorem dX12_of_10 : decode cX12_of 10 = .ok (.iaload, 1) := by decide +kernel
theorem dX12_of_11 : decode cX12_of 11 = .ok (.ireturn, 1) := by decide +kernel
theorem dX12_isMaker_0 : decode cX12_isMaker 0 = .ok (.iload_n 0, 1) := by decide +kernel
theorem dX12_isMaker_1 : decode cX12_isMaker 1 = .ok (.i2l, 1) := by decide +kernel
theorem dX12_isMaker_2 : decode cX12_isMaker 2 = .ok (.lconst 0, 1) := by decide +kernel
theorem dX12_isMaker_3 : decode cX12_isMaker 3 = .ok (.ldc2_w 101, 3) := by decide +kernel
theorem dX12_isMaker_6 : decode cX12_isMaker 6 = .ok (.invokestatic 97, 3) := by decide +kernel
theorem dX12_isMaker_9 : decode cX12_isMaker 9 = .ok (.ireturn, 1) := by decide +kernel
theorem dX12_find_0 : decode cX12_find 0 = .ok (.iload_n 1, 1) := by decide +kernel
theorem dX12_find_1 : decode cX12_find 1 = .ok (.invokestatic 103, 3) := by decide +kernel
theorem dX12_find_4 : decode cX12_find 4 = .ok (.ifCond .eq 57, 3) := by decide +kernel
theorem dX12_find_7 : decode cX12_find 7 = .ok (.iload_n 2, 1) := by decide +kernel
theorem dX12_find_8 : decode cX12_find 8 = .ok (.i2l, 1) := by decide +kernel
theorem dX12_find_9 : decode cX12_find 9 = .ok (.lconst 0, 1) := by decide +kernel
theorem dX12_find_10 : decode cX12_find 10 = .ok (.ldc2_w 106, 3) := by decide +kernel
theorem dX12_find_13 : decode cX12_find 13 = .ok (.invokestatic 97, 3) := by decide +kernel
theorem dX12_find_16 : decode cX12_find 16 = .ok (.ifCond .eq 45, 3) := by decide +kernel
theorem dX12_find_19 : decode cX12_find 19 = .ok (.iload_n 3, 1) := by decide +kernel
theorem dX12_find_20 : decode cX12_find 20 = .ok (.i2l, 1) := by decide +kernel
theorem dX12_find_21 : decode cX12_find 21 = .ok (.ldc2_w 108, 3) := by decide +kernel
theorem dX12_find_24 : decode cX12_find 24 = .ok (.ldc2_w 110, 3) := by decide +kernel
theorem dX12_find_27 : decode cX12_find 27 = .ok (.invokestatic 97, 3) := by decide +kernel
theorem dX12_find_30 : decode cX12_find 30 = .ok (.ifCond .eq 31, 3) := by decide +kernel
theorem dX12_find_33 : decode cX12_find 33 = .ok (.iload 4, 2) := by decide +kernel
theorem dX12_find_35 : decode cX12_find 35 = .ok (.i2l, 1) := by decide +kernel
theorem dX12_find_36 : decode cX12_find 36 = .ok (.ldc2_w 108, 3) := by decide +kernel
theorem dX12_find_39 : decode cX12_find 39 = .ok (.ldc2_w 112, 3) := by decide +kernel
theorem dX12_find_42 : decode cX12_find 42 = .ok (.invokestatic 97, 3) := by decide +kernel
theorem dX12_find_45 : decode cX12_find 45 = .ok (.ifCond .eq 16, 3) := by decide +kernel
theorem dX12_find_48 : decode cX12_find 48 = .ok (.iload 5, 2) := by decide +kernel
theorem dX12_find_50 : decode cX12_find 50 = .ok (.i2l, 1) := by decide +kernel
theorem dX12_find_51 : decode cX12_find 51 = .ok (.lconst 0, 1) := by decide +kernel
theorem dX12_find_52 : decode cX12_find 52 = .ok (.ldc2_w 114, 3) := by decide +kernel
theorem dX12_find_55 : decode cX12_find 55 = .ok (.invokestatic 97, 3) := by decide +kernel
theorem dX12_find_58 : decode cX12_find 58 = .ok (.ifCond .ne 6, 3) := by decide +kernel
theorem dX12_find_61 : decode cX12_find 61 = .ok (.bipush (-2), 2) := by decide +kernel
theorem dX12_find_63 : decode cX12_find 63 = .ok (.ireturn, 1) := by decide +kernel
theorem dX12_find_64 : decode cX12_find 64 = .ok (.aload_n 0, 1) := by decide +kernel
theorem dX12_find_65 : decode cX12_find 65 = .ok (.getfield 116, 3) := by decide +kernel
theorem dX12_find_68 : decode cX12_find 68 = .ok (.bipush 60, 2) := by decide +kernel
theorem dX12_find_70 : decode cX12_find 70 = .ok (.if_icmp .ne 6, 3) := by decide +kernel
theorem dX12_find_73 : decode cX12_find 73 = .ok (.bipush (-4), 2) := by decide +kernel
theorem dX12_find_75 : decode cX12_find 75 = .ok (.ireturn, 1) := by decide +kernel
theorem dX12_find_76 : decode cX12_find 76 = .ok (.bipush 6, 2) := by decide +kernel
theorem dX12_find_78 : decode cX12_find 78 = .ok (.aload_n 0, 1) := by decide +kernel
theorem dX12_find_79 : decode cX12_find 79 = .ok (.getfield 116, 3) := by decide +kernel
theorem dX12_find_82 : decode cX12_find 82 = .ok (.imul, 1) := by decide +kernel
theorem dX12_find_83 : decode cX12_find 83 = .ok (.istore 6, 2) := by decide +kernel
theorem dX12_find_85 : decode cX12_find 85 = .ok (.aload_n 0, 1) := by decide +kernel
theorem dX12_find_86 : decode cX12_find 86 = .ok (.getfield 16, 3) := by decide +kernel
theorem dX12_find_89 : decode cX12_find 89 = .ok (.iload 6, 2) := by decide +kernel
theorem dX12_find_91 : decode cX12_find 91 = .ok (.iload_n 1, 1) := by decide +kernel
theorem dX12_find_92 : decode cX12_find 92 = .ok (.iastore, 1) := by decide +kernel
theorem dX12_find_93 : decode cX12_find 93 = .ok (.aload_n 0, 1) := by decide +kernel
theorem dX12_find_94 : decode cX12_find 94 = .ok (.getfield 16, 3) := by decide +kernel
theorem dX12_find_97 : decode cX12_find 97 = .ok (.iload 6, 2) := by decide +kernel
theorem dX12_find_99 : decode cX12_find 99 = .ok (.iconst 1, 1) := by decide +kernel
theorem dX12_find_100 : decode cX12_find 100 = .ok (.iadd, 1) := by decide +kernel
theorem dX12_find_101 : decode cX12_find 101 = .ok (.iload_n 2, 1) := by decide +kernel
theorem dX12_find_102 : decode cX12_find 102 = .ok (.iastore, 1) := by decide +kernel
theorem dX12_find_103 : decode cX12_find 103 = .ok (.aload_n 0, 1) := by decide +kernel
theorem dX12_find_104 : decode cX12_find 104 = .ok (.getfield 16, 3) := by decide +kernel
theorem dX12_find_107 : decode cX12_find 107 = .ok (.iload 6, 2) := by decide +kernel
theorem dX12_find_109 : decode cX12_find 109 = .ok (.iconst 2, 1) := by decide +kernel
theorem dX12_find_110 : decode cX12_find 110 = .ok (.iadd, 1) := by decide +kernel
theorem dX12_find_111 : decode cX12_find 111 = .ok (.iload_n 3, 1) := by decide +kernel
theorem dX12_find_112 : decode cX12_find 112 = .ok (.iastore, 1) := by decide +kernel
theorem dX12_find_113 : decode cX12_find 113 = .ok (.aload_n 0, 1) := by decide +kernel
theorem dX12_find_114 : decode cX12_find 114 = .ok (.getfield 16, 3) := by decide +kernel
theorem dX12_find_117 : decode cX12_find 117 = .ok (.iload 6, 2) := by decide +kernel
theorem dX12_find_119 : decode cX12_find 119 = .ok (.iconst 3, 1) := by decide +kernel
theorem dX12_find_120 : decode cX12_find 120 = .ok (.iadd, 1) := by decide +kernel
theorem dX12_find_121 : decode cX12_find 121 = .ok (.iload 4, 2) := by decide +kernel
theorem dX12_find_123 : decode cX12_find 123 = .ok (.iastore, 1) := by decide +kernel
theorem dX12_find_124 : decode cX12_find 124 = .ok (.aload_n 0, 1) := by decide +kernel
theorem dX12_find_125 : decode cX12_find 125 = .ok (.getfield 16, 3) := by decide +kernel
theorem dX12_find_128 : decode cX12_find 128 = .ok (.iload 6, 2) := by decide +kernel
theorem dX12_find_130 : decode cX12_find 130 = .ok (.iconst 4, 1) := by decide +kernel
theorem dX12_find_131 : decode cX12_find 131 = .ok (.iadd, 1) := by decide +kernel
theorem dX12_find_132 : decode cX12_find 132 = .ok (.iload 5, 2) := by decide +kernel
theorem dX12_find_134 : decode cX12_find 134 = .ok (.iastore, 1) := by decide +kernel
theorem dX12_find_135 : decode cX12_find 135 = .ok (.aload_n 0, 1) := by decide +kernel
theorem dX12_find_136 : decode cX12_find 136 = .ok (.getfield 16, 3) := by decide +kernel
theorem dX12_find_139 : decode cX12_find 139 = .ok (.iload 6, 2) := by decide +kernel
theorem dX12_find_141 : decode cX12_find 141 = .ok (.iconst 5, 1) := by decide +kernel
theorem dX12_find_142 : decode cX12_find 142 = .ok (.iadd, 1) := by decide +kernel
theorem dX12_find_143 : decode cX12_find 143 = .ok (.iconst 0, 1) := by decide +kernel
theorem dX12_find_144 : decode cX12_find 144 = .ok (.iastore, 1) := by decide +kernel
theorem dX12_find_145 : decode cX12_find 145 = .ok (.aload_n 0, 1) := by decide +kernel
theorem dX12_find_146 : decode cX12_find 146 = .ok (.dup, 1) := by decide +kernel
theorem dX12_find_147 : decode cX12_find 147 = .ok (.getfield 116, 3) := by decide +kernel
theorem dX12_find_150 : decode cX12_find 150 = .ok (.iconst 1, 1) := by decide +kernel
theorem dX12_find_151 : decode cX12_find 151 = .ok (.iadd, 1) := by decide +kernel
theorem dX12_find_152 : decode cX12_find 152 = .ok (.putfield 116, 3) := by decide +kernel
theorem dX12_find_155 : decode cX12_find 155 = .ok (.aload_n 0, 1) := by decide +kernel
theorem dX12_find_156 : decode cX12_find 156 = .ok (.getfield 116, 3) := by decide +kernel
theorem dX12_find_159 : decode cX12_find 159 = .ok (.iconst 1, 1) := by decide +kernel
theorem dX12_find_160 : decode cX12_find 160 = .ok (.isub, 1) := by decide +kernel
theorem dX12_find_161 : decode cX12_find 161 = .ok (.ireturn, 1) := by decide +kernel
theorem dX12_isFind_0 : decode cX12_isFind 0 = .ok (.iload_n 1, 1) := by decide +kernel
theorem dX12_isFind_1 : decode cX12_isFind 1 = .ok (.i2l, 1) := by decide +kernel
theorem dX12_isFind_2 : decode cX12_isFind 2 = .ok (.lconst 0, 1) := by decide +kernel
theorem dX12_isFind_3 : decode cX12_isFind 3 = .ok (.aload_n 0, 1) := by decide +kernel
theorem dX12_isFind_4 : decode cX12_isFind 4 = .ok (.getfield 116, 3) := by decide +kernel
theorem dX12_isFind_7 : decode cX12_isFind 7 = .ok (.iconst 1, 1) := by decide +kernel
theorem dX12_isFind_8 : decode cX12_isFind 8 = .ok (.isub, 1) := by decide +kernel
theorem dX12_isFind_9 : decode cX12_isFind 9 = .ok (.i2l, 1) := by decide +kernel
theorem dX12_isFind_10 : decode cX12_isFind 10 = .ok (.invokestatic 97, 3) := by decide +kernel
theorem dX12_isFind_13 : decode cX12_isFind 13 = .ok (.ireturn, 1) := by decide +kernel
theorem dX12_doubt_0 : decode cX12_doubt 0 = .ok (.aload_n 0, 1) := by decide +kernel
theorem dX12_doubt_1 : decode cX12_doubt 1 = .ok (.iload_n 1, 1) := by decide +kernel
theorem dX12_doubt_2 : decode cX12_doubt 2 = .ok (.invokevirtual 119, 3) := by decide +kernel
theorem dX12_doubt_5 : decode cX12_doubt 5 = .ok (.ifCond .ne 6, 3) := by decide +kernel
theorem dX12_doubt_8 : decode cX12_doubt 8 = .ok (.bipush (-2), 2) := by decide +kernel
theorem dX12_doubt_10 : decode cX12_doubt 10 = .ok (.ireturn, 1) := by decide +kernel
theorem dX12_doubt_11 : decode cX12_doubt 11 = .ok (.aload_n 0, 1) := by decide +kernel
theorem dX12_doubt_12 : decode cX12_doubt 12 = .ok (.iload_n 1, 1) := by decide +kernel
theorem dX12_doubt_13 : decode cX12_doubt 13 = .ok (.iconst 5, 1) := by decide +kernel
theorem dX12_doubt_14 : decode cX12_doubt 14 = .ok (.invokevirtual 122, 3) := by decide +kernel
theorem dX12_doubt_17 : decode cX12_doubt 17 = .ok (.iconst 1, 1) := by decide +kernel
theorem dX12_doubt_18 : decode cX12_doubt 18 = .ok (.if_icmp .ne 7, 3) := by decide +kernel
theorem dX12_doubt_21 : decode cX12_doubt 21 = .ok (.iconst 1, 1) := by decide +kernel
theorem dX12_doubt_22 : decode cX12_doubt 22 = .ok (.goto 4, 3) := by decide +kernel
theorem dX12_doubt_25 : decode cX12_doubt 25 = .ok (.iconst 0, 1) := by decide +kernel
theorem dX12_doubt_26 : decode cX12_doubt 26 = .ok (.iload_n 2, 1) := by decide +kernel
theorem dX12_doubt_27 : decode cX12_doubt 27 = .ok (.if_icmp .ne 6, 3) := by decide +kernel
theorem dX12_doubt_30 : decode cX12_doubt 30 = .ok (.bipush (-3), 2) := by decide +kernel
theorem dX12_doubt_32 : decode cX12_doubt 32 = .ok (.ireturn, 1) := by decide +kernel
theorem dX12_doubt_33 : decode cX12_doubt 33 = .ok (.aload_n 0, 1) := by decide +kernel
theorem dX12_doubt_34 : decode cX12_doubt 34 = .ok (.getfield 16, 3) := by decide +kernel
theorem dX12_doubt_37 : decode cX12_doubt 37 = .ok (.bipush 6, 2) := by decide +kernel
theorem dX12_doubt_39 : decode cX12_doubt 39 = .ok (.iload_n 1, 1) := by decide +kernel
theorem dX12_doubt_40 : decode cX12_doubt 40 = .ok (.imul, 1) := by decide +kernel
theorem dX12_doubt_41 : decode cX12_doubt 41 = .ok (.iconst 5, 1) := by decide +kernel
theorem dX12_doubt_42 : decode cX12_doubt 42 = .ok (.iadd, 1) := by decide +kernel
theorem dX12_doubt_43 : decode cX12_doubt 43 = .ok (.iload_n 2, 1) := by decide +kernel
theorem dX12_doubt_44 : decode cX12_doubt 44 = .ok (.ifCond .eq 7, 3) := by decide +kernel
theorem dX12_doubt_47 : decode cX12_doubt 47 = .ok (.iconst 1, 1) := by decide +kernel
theorem dX12_doubt_48 : decode cX12_doubt 48 = .ok (.goto 4, 3) := by decide +kernel
theorem dX12_doubt_51 : decode cX12_doubt 51 = .ok (.iconst 0, 1) := by decide +kernel
theorem dX12_doubt_52 : decode cX12_doubt 52 = .ok (.iastore, 1) := by decide +kernel
theorem dX12_doubt_53 : decode cX12_doubt 53 = .ok (.iconst 1, 1) := by decide +kernel
theorem dX12_doubt_54 : decode cX12_doubt 54 = .ok (.ireturn, 1) := by decide +kernel
theorem dX12_counts_0 : decode cX12_counts 0 = .ok (.aload_n 0, 1) := by decide +kernel
theorem dX12_counts_1 : decode cX12_counts 1 = .ok (.iload_n 1, 1) := by decide +kernel
theorem dX12_counts_2 : decode cX12_counts 2 = .ok (.iconst 0, 1) := by decide +kernel
theorem dX12_counts_3 : decode cX12_counts 3 = .ok (.invokevirtual 122, 3) := by decide +kernel
theorem dX12_counts_6 : decode cX12_counts 6 = .ok (.iload_n 2, 1) := by decide +kernel
theorem dX12_counts_7 : decode cX12_counts 7 = .ok (.if_icmp .ne 16, 3) := by decide +kernel
theorem dX12_counts_10 : decode cX12_counts 10 = .ok (.aload_n 0, 1) := by decide +kernel
theorem dX12_counts_11 : decode cX12_counts 11 = .ok (.iload_n 1, 1) := by decide +kernel
theorem dX12_counts_12 : decode cX12_counts 12 = .ok (.iconst 5, 1) := by decide +kernel
theorem dX12_counts_13 : decode cX12_counts 13 = .ok (.invokevirtual 122, 3) := by decide +kernel
theorem dX12_counts_16 : decode cX12_counts 16 = .ok (.ifCond .ne 7, 3) := by decide +kernel
theorem dX12_counts_19 : decode cX12_counts 19 = .ok (.iconst 1, 1) := by decide +kernel
theorem dX12_counts_20 : decode cX12_counts 20 = .ok (.goto 4, 3) := by decide +kernel
theorem dX12_counts_23 : decode cX12_counts 23 = .ok (.iconst 0, 1) := by decide +kernel
theorem dX12_counts_24 : decode cX12_counts 24 = .ok (.ireturn, 1) := by decide +kernel
theorem dX12_finds0_0 : decode cX12_finds0 0 = .ok (.aload_n 0, 1) := by decide +kernel
theorem dX12_finds0_1 : decode cX12_finds0 1 = .ok (.iconst 0, 1) := by decide +kernel
theorem dX12_finds0_2 : decode cX12_finds0 2 = .ok (.putfield 125, 3) := by decide +kernel
theorem dX12_finds0_5 : decode cX12_finds0 5 = .ok (.iconst 0, 1) := by decide +kernel
theorem dX12_finds0_6 : decode cX12_finds0 6 = .ok (.istore_n 3, 1) := by decide +kernel
theorem dX12_finds0_7 : decode cX12_finds0 7 = .ok (.iload_n 3, 1) := by decide +kernel
theorem dX12_finds0_8 : decode cX12_finds0 8 = .ok (.aload_n 0, 1) := by decide +kernel
theorem dX12_finds0_9 : decode cX12_finds0 9 = .ok (.getfield 116, 3) := by decide +kernel
theorem dX12_finds0_12 : decode cX12_finds0 12 = .ok (.if_icmp .ge 140, 3) := by decide +kernel
theorem dX12_finds0_15 : decode cX12_finds0 15 = .ok (.aload_n 0, 1) := by decide +kernel
theorem dX12_finds0_16 : decode cX12_finds0 16 = .ok (.iload_n 3, 1) := by decide +kernel
theorem dX12_finds0_17 : decode cX12_finds0 17 = .ok (.iload_n 1, 1) := by decide +kernel
theorem dX12_finds0_18 : decode cX12_finds0 18 = .ok (.invokevirtual 128, 3) := by decide +kernel
theorem dX12_finds0_21 : decode cX12_finds0 21 = .ok (.ifCond .eq 125, 3) := by decide +kernel
theorem dX12_finds0_24 : decode cX12_finds0 24 = .ok (.iload_n 3, 1) := by decide +kernel
theorem dX12_finds0_25 : decode cX12_finds0 25 = .ok (.iload_n 2, 1) := by decide +kernel
theorem dX12_finds0_26 : decode cX12_finds0 26 = .ok (.if_icmp .eq 120, 3) := by decide +kernel
theorem dX12_finds0_29 : decode cX12_finds0 29 = .ok (.iconst 0, 1) := by decide +kernel
theorem dX12_finds0_30 : decode cX12_finds0 30 = .ok (.istore 4, 2) := by decide +kernel
theorem dX12_finds0_32 : decode cX12_finds0 32 = .ok (.iload 4, 2) := by decide +kernel
theorem dX12_finds0_34 : decode cX12_finds0 34 = .ok (.aload_n 0, 1) := by decide +kernel
theorem dX12_finds0_35 : decode cX12_finds0 35 = .ok (.getfield 125, 3) := by decide +kernel
theorem dX12_finds0_38 : decode cX12_finds0 38 = .ok (.if_icmp .ge 25, 3) := by decide +kernel
theorem dX12_finds0_41 : decode cX12_finds0 41 = .ok (.aload_n 0, 1) := by decide +kernel
theorem dX12_finds0_42 : decode cX12_finds0 42 = .ok (.getfield 19, 3) := by decide +kernel
theorem dX12_finds0_45 : decode cX12_finds0 45 = .ok (.iload 4, 2) := by decide +kernel
theorem dX12_finds0_47 : decode cX12_finds0 47 = .ok (.iaload, 1) := by decide +kernel
theorem dX12_finds0_48 : decode cX12_finds0 48 = .ok (.aload_n 0, 1) := by decide +kernel
theorem dX12_finds0_49 : decode cX12_finds0 49 = .ok (.iload_n 3, 1) := by decide +kernel
theorem dX12_finds0_50 : decode cX12_finds0 50 = .ok (.iconst 1, 1) := by decide +kernel
theorem dX12_finds0_51 : decode cX12_finds0 51 = .ok (.invokevirtual 122, 3) := by decide +kernel
theorem dX12_finds0_54 : decode cX12_finds0 54 = .ok (.if_icmp .ge 9, 3) := by decide +kernel
theorem dX12_finds0_57 : decode cX12_finds0 57 = .ok (.iinc 4 1, 3) := by decide +kernel
theorem dX12_finds0_60 : decode cX12_finds0 60 = .ok (.goto (-28), 3) := by decide +kernel
theorem dX12_finds0_63 : decode cX12_finds0 63 = .ok (.iload 4, 2) := by decide +kernel
theorem dX12_finds0_65 : decode cX12_finds0 65 = .ok (.aload_n 0, 1) := by decide +kernel
theorem dX12_finds0_66 : decode cX12_finds0 66 = .ok (.getfield 125, 3) := by decide +kernel
theorem dX12_finds0_69 : decode cX12_finds0 69 = .ok (.if_icmp .eq 19, 3) := by decide +kernel
theorem dX12_finds0_72 : decode cX12_finds0 72 = .ok (.aload_n 0, 1) := by decide +kernel
theorem dX12_finds0_73 : decode cX12_finds0 73 = .ok (.getfield 19, 3) := by decide +kernel
theorem dX12_finds0_76 : decode cX12_finds0 76 = .ok (.iload 4, 2) := by decide +kernel
theorem dX12_finds0_78 : decode cX12_finds0 78 = .ok (.iaload, 1) := by decide +kernel
theorem dX12_finds0_79 : decode cX12_finds0 79 = .ok (.aload_n 0, 1) := by decide +kernel
theorem dX12_finds0_80 : decode cX12_finds0 80 = .ok (.iload_n 3, 1) := by decide +kernel
theorem dX12_finds0_81 : decode cX12_finds0 81 = .ok (.iconst 1, 1) := by decide +kernel
theorem dX12_finds0_82 : decode cX12_finds0 82 = .ok (.invokevirtual 122, 3) := by decide +kernel
theorem dX12_finds0_85 : decode cX12_finds0 85 = .ok (.if_icmp .eq 61, 3) := by decide +kernel
theorem dX12_finds0_88 : decode cX12_finds0 88 = .ok (.aload_n 0, 1) := by decide +kernel
theorem dX12_finds0_89 : decode cX12_finds0 89 = .ok (.getfield 125, 3) := by decide +kernel
theorem dX12_finds0_92 : decode cX12_finds0 92 = .ok (.istore 5, 2) := by decide +kernel
theorem dX12_finds0_94 : decode cX12_finds0 94 = .ok (.iload 5, 2) := by decide +kernel
theorem dX12_finds0_96 : decode cX12_finds0 96 = .ok (.iload 4, 2) := by decide +kernel
theorem dX12_finds0_98 : decode cX12_finds0 98 = .ok (.if_icmp .le 25, 3) := by decide +kernel
theorem dX12_finds0_101 : decode cX12_finds0 101 = .ok (.aload_n 0, 1) := by decide +kernel
theorem dX12_finds0_102 : decode cX12_finds0 102 = .ok (.getfield 19, 3) := by decide +kernel
theorem dX12_finds0_105 : decode cX12_finds0 105 = .ok (.iload 5, 2) := by decide +kernel
theorem dX12_finds0_107 : decode cX12_finds0 107 = .ok (.aload_n 0, 1) := by decide +kernel
theorem dX12_finds0_108 : decode cX12_finds0 108 = .ok (.getfield 19, 3) := by decide +kernel
theorem dX12_finds0_111 : decode cX12_finds0 111 = .ok (.iload 5, 2) := by decide +kernel
theorem dX12_finds0_113 : decode cX12_finds0 113 = .ok (.iconst 1, 1) := by decide +kernel
theorem dX12_finds0_114 : decode cX12_finds0 114 = .ok (.isub, 1) := by decide +kernel
theorem dX12_finds0_115 : decode cX12_finds0 115 = .ok (.iaload, 1) := by decide +kernel
theorem dX12_finds0_116 : decode cX12_finds0 116 = .ok (.iastore, 1) := by decide +kernel
theorem dX12_finds0_117 : decode cX12_finds0 117 = .ok (.iinc 5 (-1), 3) := by decide +kernel
theorem dX12_finds0_120 : decode cX12_finds0 120 = .ok (.goto (-26), 3) := by decide +kernel
theorem dX12_finds0_123 : decode cX12_finds0 123 = .ok (.aload_n 0, 1) := by decide +kernel
theorem dX12_finds0_124 : decode cX12_finds0 124 = .ok (.getfield 19, 3) := by decide +kernel
theorem dX12_finds0_127 : decode cX12_finds0 127 = .ok (.iload 4, 2) := by decide +kernel
theorem dX12_finds0_129 : decode cX12_finds0 129 = .ok (.aload_n 0, 1) := by decide +kernel
theorem dX12_finds0_130 : decode cX12_finds0 130 = .ok (.iload_n 3, 1) := by decide +kernel
theorem dX12_finds0_131 : decode cX12_finds0 131 = .ok (.iconst 1, 1) := by decide +kernel
theorem dX12_finds0_132 : decode cX12_finds0 132 = .ok (.invokevirtual 122, 3) := by decide +kernel
theorem dX12_finds0_135 : decode cX12_finds0 135 = .ok (.iastore, 1) := by decide +kernel
theorem dX12_finds0_136 : decode cX12_finds0 136 = .ok (.aload_n 0, 1) := by decide +kernel
theorem dX12_finds0_137 : decode cX12_finds0 137 = .ok (.dup, 1) := by decide +kernel
theorem dX12_finds0_138 : decode cX12_finds0 138 = .ok (.getfield 125, 3) := by decide +kernel
theorem dX12_finds0_141 : decode cX12_finds0 141 = .ok (.iconst 1, 1) := by decide +kernel
theorem dX12_finds0_142 : decode cX12_finds0 142 = .ok (.iadd, 1) := by decide +kernel
theorem dX12_finds0_143 : decode cX12_finds0 143 = .ok (.putfield 125, 3) := by decide +kernel
theorem dX12_finds0_146 : decode cX12_finds0 146 = .ok (.iinc 3 1, 3) := by decide +kernel
theorem dX12_finds0_149 : decode cX12_finds0 149 = .ok (.goto (-142), 3) := by decide +kernel
theorem dX12_finds0_152 : decode cX12_finds0 152 = .ok (.return_, 1) := by decide +kernel
theorem dX12_divisor_0 : decode cX12_divisor 0 = .ok (.iload_n 0, 1) := by decide +kernel
theorem dX12_divisor_1 : decode cX12_divisor 1 = .ok (.istore_n 2, 1) := by decide +kernel
theorem dX12_divisor_2 : decode cX12_divisor 2 = .ok (.iload_n 1, 1) := by decide +kernel
theorem dX12_divisor_3 : decode cX12_divisor 3 = .ok (.istore_n 3, 1) := by decide +kernel
theorem dX12_divisor_4 : decode cX12_divisor 4 = .ok (.iload_n 3, 1) := by decide +kernel
theorem dX12_divisor_5 : decode cX12_divisor 5 = .ok (.ifCond .eq 16, 3) := by decide +kernel
theorem dX12_divisor_8 : decode cX12_divisor 8 = .ok (.iload_n 2, 1) := by decide +kernel
theorem dX12_divisor_9 : decode cX12_divisor 9 = .ok (.iload_n 3, 1) := by decide +kernel
theorem dX12_divisor_10 : decode cX12_divisor 10 = .ok (.irem, 1) := by decide +kernel
theorem dX12_divisor_11 : decode cX12_divisor 11 = .ok (.istore 4, 2) := by decide +kernel
theorem dX12_divisor_13 : decode cX12_divisor 13 = .ok (.iload_n 3, 1) := by decide +kernel
theorem dX12_divisor_14 : decode cX12_divisor 14 = .ok (.istore_n 2, 1) := by decide +kernel
theorem dX12_divisor_15 : decode cX12_divisor 15 = .ok (.iload 4, 2) := by decide +kernel
theorem dX12_divisor_17 : decode cX12_divisor 17 = .ok (.istore_n 3, 1) := by decide +kernel
theorem dX12_divisor_18 : decode cX12_divisor 18 = .ok (.goto (-14), 3) := by decide +kernel
theorem dX12_divisor_21 : decode cX12_divisor 21 = .ok (.iload_n 2, 1) := by decide +kernel
theorem dX12_divisor_22 : decode cX12_divisor 22 = .ok (.ireturn, 1) := by decide +kernel
theorem dX12_numbersOf_0 : decode cX12_numbersOf 0 = .ok (.aload_n 0, 1) := by decide +kernel
theorem dX12_numbersOf_1 : decode cX12_numbersOf 1 = .ok (.iload_n 1, 1) := by decide +kernel
theorem dX12_numbersOf_2 : decode cX12_numbersOf 2 = .ok (.iconst (-1), 1) := by decide +kernel
theorem dX12_numbersOf_3 : decode cX12_numbersOf 3 = .ok (.invokevirtual 132, 3) := by decide +kernel
theorem dX12_numbersOf_6 : decode cX12_numbersOf 6 = .ok (.iload_n 2, 1) := by decide +kernel
theorem dX12_numbersOf_7 : decode cX12_numbersOf 7 = .ok (.ifCond .ne 8, 3) := by decide +kernel
theorem dX12_numbersOf_10 : decode cX12_numbersOf 10 = .ok (.aload_n 0, 1) := by decide +kernel
theorem dX12_numbersOf_11 : decode cX12_numbersOf 11 = .ok (.getfield 125, 3) := by decide +kernel
theorem dX12_numbersOf_14 : decode cX12_numbersOf 14 = .ok (.ireturn, 1) := by decide +kernel
theorem dX12_numbersOf_15 : decode cX12_numbersOf 15 = .ok (.iconst 0, 1) := by decide +kernel
theorem dX12_numbersOf_16 : decode cX12_numbersOf 16 = .ok (.istore_n 3, 1) := by decide +kernel
theorem dX12_numbersOf_17 : decode cX12_numbersOf 17 = .ok (.iconst 1, 1) := by decide +kernel
theorem dX12_numbersOf_18 : decode cX12_numbersOf 18 = .ok (.istore 4, 2) := by decide +kernel
theorem dX12_numbersOf_20 : decode cX12_numbersOf 20 = .ok (.iload 4, 2) := by decide +kernel
theorem dX12_numbersOf_22 : decode cX12_numbersOf 22 = .ok (.aload_n 0, 1) := by decide +kernel
theorem dX12_numbersOf_23 : decode cX12_numbersOf 23 = .ok (.getfield 125, 3) := by decide +kernel
theorem dX12_numbersOf_26 : decode cX12_numbersOf 26 = .ok (.if_icmp .ge 31, 3) := by decide +kernel
theorem dX12_numbersOf_29 : decode cX12_numbersOf 29 = .ok (.iload_n 3, 1) := by decide +kernel
theorem dX12_numbersOf_30 : decode cX12_numbersOf 30 = .ok (.aload_n 0, 1) := by decide +kernel
theorem dX12_numbersOf_31 : decode cX12_numbersOf 31 = .ok (.getfield 19, 3) := by decide +kernel
theorem dX12_numbersOf_34 : decode cX12_numbersOf 34 = .ok (.iload 4, 2) := by decide +kernel
theorem dX12_numbersOf_36 : decode cX12_numbersOf 36 = .ok (.iaload, 1) := by decide +kernel
theorem dX12_numbersOf_37 : decode cX12_numbersOf 37 = .ok (.aload_n 0, 1) := by decide +kernel
theorem dX12_numbersOf_38 : decode cX12_numbersOf 38 = .ok (.getfield 19, 3) := by decide +kernel
theorem dX12_numbersOf_41 : decode cX12_numbersOf 41 = .ok (.iload 4, 2) := by decide +kernel
theorem dX12_numbersOf_43 : decode cX12_numbersOf 43 = .ok (.iconst 1, 1) := by decide +kernel
theorem dX12_numbersOf_44 : decode cX12_numbersOf 44 = .ok (.isub, 1) := by decide +kernel
theorem dX12_numbersOf_45 : decode cX12_numbersOf 45 = .ok (.iaload, 1) := by decide +kernel
theorem dX12_numbersOf_46 : decode cX12_numbersOf 46 = .ok (.isub, 1) := by decide +kernel
theorem dX12_numbersOf_47 : decode cX12_numbersOf 47 = .ok (.invokestatic 135, 3) := by decide +kernel
theorem dX12_numbersOf_50 : decode cX12_numbersOf 50 = .ok (.istore_n 3, 1) := by decide +kernel
theorem dX12_numbersOf_51 : decode cX12_numbersOf 51 = .ok (.iinc 4 1, 3) := by decide +kernel
theorem dX12_numbersOf_54 : decode cX12_numbersOf 54 = .ok (.goto (-34), 3) := by decide +kernel
theorem dX12_numbersOf_57 : decode cX12_numbersOf 57 = .ok (.iload_n 2, 1) := by decide +kernel
theorem dX12_numbersOf_58 : decode cX12_numbersOf 58 = .ok (.iconst 1, 1) := by decide +kernel
theorem dX12_numbersOf_59 : decode cX12_numbersOf 59 = .ok (.if_icmp .ne 5, 3) := by decide +kernel
theorem dX12_numbersOf_62 : decode cX12_numbersOf 62 = .ok (.iload_n 3, 1) := by decide +kernel
theorem dX12_numbersOf_63 : decode cX12_numbersOf 63 = .ok (.ireturn, 1) := by decide +kernel
theorem dX12_numbersOf_64 : decode cX12_numbersOf 64 = .ok (.iconst 0, 1) := by decide +kernel
theorem dX12_numbersOf_65 : decode cX12_numbersOf 65 = .ok (.istore 4, 2) := by decide +kernel
theorem dX12_numbersOf_67 : decode cX12_numbersOf 67 = .ok (.iconst 1, 1) := by decide +kernel
theorem dX12_numbersOf_68 : decode cX12_numbersOf 68 = .ok (.istore 5, 2) := by decide +kernel
theorem dX12_numbersOf_70 : decode cX12_numbersOf 70 = .ok (.iload 5, 2) := by decide +kernel
theorem dX12_numbersOf_72 : decode cX12_numbersOf 72 = .ok (.bipush 10, 2) := by decide +kernel
theorem dX12_numbersOf_74 : decode cX12_numbersOf 74 = .ok (.if_icmp .ge 29, 3) := by decide +kernel
theorem dX12_numbersOf_77 : decode cX12_numbersOf 77 = .ok (.iload 4, 2) := by decide +kernel
theorem dX12_numbersOf_79 : decode cX12_numbersOf 79 = .ok (.iload_n 3, 1) := by decide +kernel
theorem dX12_numbersOf_80 : decode cX12_numbersOf 80 = .ok (.iload 5, 2) := by decide +kernel
theorem dX12_numbersOf_82 : decode cX12_numbersOf 82 = .ok (.irem, 1) := by decide +kernel
theorem dX12_numbersOf_83 : decode cX12_numbersOf 83 = .ok (.ifCond .ne 10, 3) := by decide +kernel
theorem dX12_numbersOf_86 : decode cX12_numbersOf 86 = .ok (.iconst 1, 1) := by decide +kernel
theorem dX12_numbersOf_87 : decode cX12_numbersOf 87 = .ok (.iload 5, 2) := by decide +kernel
theorem dX12_numbersOf_89 : decode cX12_numbersOf 89 = .ok (.ishl, 1) := by decide +kernel
theorem dX12_numbersOf_90 : decode cX12_numbersOf 90 = .ok (.goto 4, 3) := by decide +kernel
theorem dX12_numbersOf_93 : decode cX12_numbersOf 93 = .ok (.iconst 0, 1) := by decide +kernel
theorem dX12_numbersOf_94 : decode cX12_numbersOf 94 = .ok (.ior, 1) := by decide +kernel
theorem dX12_numbersOf_95 : decode cX12_numbersOf 95 = .ok (.istore 4, 2) := by decide +kernel
theorem dX12_numbersOf_97 : decode cX12_numbersOf 97 = .ok (.iinc 5 1, 3) := by decide +kernel
theorem dX12_numbersOf_100 : decode cX12_numbersOf 100 = .ok (.goto (-30), 3) := by decide +kernel
theorem dX12_numbersOf_103 : decode cX12_numbersOf 103 = .ok (.iload 4, 2) := by decide +kernel
theorem dX12_numbersOf_105 : decode cX12_numbersOf 105 = .ok (.ireturn, 1) := by decide +kernel
theorem dX12_numbers_0 : decode cX12_numbers 0 = .ok (.iload_n 1, 1) := by decide +kernel
theorem dX12_numbers_1 : decode cX12_numbers 1 = .ok (.invokestatic 103, 3) := by decide +kernel
theorem dX12_numbers_4 : decode cX12_numbers 4 = .ok (.ifCond .eq 24, 3) := by decide +kernel
theorem dX12_numbers_7 : decode cX12_numbers 7 = .ok (.iload_n 2, 1) := by decide +kernel
theorem dX12_numbers_8 : decode cX12_numbers 8 = .ok (.i2l, 1) := by decide +kernel
theorem dX12_numbers_9 : decode cX12_numbers 9 = .ok (.lconst 0, 1) := by decide +kernel
theorem dX12_numbers_10 : decode cX12_numbers 10 = .ok (.ldc2_w 138, 3) := by decide +kernel
theorem dX12_numbers_13 : decode cX12_numbers 13 = .ok (.invokestatic 97, 3) := by decide +kernel
theorem dX12_numbers_16 : decode cX12_numbers 16 = .ok (.ifCond .eq 12, 3) := by decide +kernel
theorem dX12_numbers_19 : decode cX12_numbers 19 = .ok (.aload_n 0, 1) := by decide +kernel
theorem dX12_numbers_20 : decode cX12_numbers 20 = .ok (.iload_n 1, 1) := by decide +kernel
theorem dX12_numbers_21 : decode cX12_numbers 21 = .ok (.iload_n 2, 1) := by decide +kernel
theorem dX12_numbers_22 : decode cX12_numbers 22 = .ok (.invokevirtual 140, 3) := by decide +kernel
theorem dX12_numbers_25 : decode cX12_numbers 25 = .ok (.goto 5, 3) := by decide +kernel
theorem dX12_numbers_28 : decode cX12_numbers 28 = .ok (.bipush (-2), 2) := by decide +kernel
theorem dX12_numbers_30 : decode cX12_numbers 30 = .ok (.ireturn, 1) := by decide +kernel
theorem dX12_isScheme_0 : decode cX12_isScheme 0 = .ok (.iload_n 0, 1) := by decide +kernel
theorem dX12_isScheme_1 : decode cX12_isScheme 1 = .ok (.i2l, 1) := by decide +kernel
theorem dX12_isScheme_2 : decode cX12_isScheme 2 = .ok (.lconst 0, 1) := by decide +kernel
theorem dX12_isScheme_3 : decode cX12_isScheme 3 = .ok (.ldc2_w 106, 3) := by decide +kernel
theorem dX12_isScheme_6 : decode cX12_isScheme 6 = .ok (.invokestatic 97, 3) := by decide +kernel
theorem dX12_isScheme_9 : decode cX12_isScheme 9 = .ok (.ifCond .eq 19, 3) := by decide +kernel
theorem dX12_isScheme_12 : decode cX12_isScheme 12 = .ok (.iload_n 1, 1) := by decide +kernel
theorem dX12_isScheme_13 : decode cX12_isScheme 13 = .ok (.i2l, 1) := by decide +kernel
theorem dX12_isScheme_14 : decode cX12_isScheme 14 = .ok (.lconst 1, 1) := by decide +kernel
theorem dX12_isScheme_15 : decode cX12_isScheme 15 = .ok (.ldc2_w 143, 3) := by decide +kernel
theorem dX12_isScheme_18 : decode cX12_isScheme 18 = .ok (.invokestatic 97, 3) := by decide +kernel
theorem dX12_isScheme_21 : decode cX12_isScheme 21 = .ok (.ifCond .eq 7, 3) := by decide +kernel
theorem dX12_isScheme_24 : decode cX12_isScheme 24 = .ok (.iconst 1, 1) := by decide +kernel
theorem dX12_isScheme_25 : decode cX12_isScheme 25 = .ok (.goto 4, 3) := by decide +kernel
theorem dX12_isScheme_28 : decode cX12_isScheme 28 = .ok (.iconst 0, 1) := by decide +kernel
theorem dX12_isScheme_29 : decode cX12_isScheme 29 = .ok (.ireturn, 1) := by decide +kernel
theorem dX12_fitsNow_0 : decode cX12_fitsNow 0 = .ok (.iconst 1, 1) := by decide +kernel
theorem dX12_fitsNow_1 : decode cX12_fitsNow 1 = .ok (.istore_n 3, 1) := by decide +kernel
theorem dX12_fitsNow_2 : decode cX12_fitsNow 2 = .ok (.iconst 0, 1) := by decide +kernel
theorem dX12_fitsNow_3 : decode cX12_fitsNow 3 = .ok (.istore 4, 2) := by decide +kernel
theorem dX12_fitsNow_5 : decode cX12_fitsNow 5 = .ok (.iload 4, 2) := by decide +kernel
theorem dX12_fitsNow_7 : decode cX12_fitsNow 7 = .ok (.aload_n 0, 1) := by decide +kernel
theorem dX12_fitsNow_8 : decode cX12_fitsNow 8 = .ok (.getfield 125, 3) := by decide +kernel
theorem dX12_fitsNow_11 : decode cX12_fitsNow 11 = .ok (.if_icmp .ge 44, 3) := by decide +kernel
theorem dX12_fitsNow_14 : decode cX12_fitsNow 14 = .ok (.iload_n 3, 1) := by decide +kernel
theorem dX12_fitsNow_15 : decode cX12_fitsNow 15 = .ok (.ifCond .eq 32, 3) := by decide +kernel
theorem dX12_fitsNow_18 : decode cX12_fitsNow 18 = .ok (.aload_n 0, 1) := by decide +kernel
theorem dX12_fitsNow_19 : decode cX12_fitsNow 19 = .ok (.getfield 19, 3) := by decide +kernel
theorem dX12_fitsNow_22 : decode cX12_fitsNow 22 = .ok (.iload 4, 2) := by decide +kernel
theorem dX12_fitsNow_24 : decode cX12_fitsNow 24 = .ok (.iaload, 1) := by decide +kernel
theorem dX12_fitsNow_25 : decode cX12_fitsNow 25 = .ok (.iload_n 1, 1) := by decide +kernel
theorem dX12_fitsNow_26 : decode cX12_fitsNow 26 = .ok (.if_icmp .lt 21, 3) := by decide +kernel
theorem dX12_fitsNow_29 : decode cX12_fitsNow 29 = .ok (.aload_n 0, 1) := by decide +kernel
theorem dX12_fitsNow_30 : decode cX12_fitsNow 30 = .ok (.getfield 19, 3) := by decide +kernel
theorem dX12_fitsNow_33 : decode cX12_fitsNow 33 = .ok (.iload 4, 2) := by decide +kernel
theorem dX12_fitsNow_35 : decode cX12_fitsNow 35 = .ok (.iaload, 1) := by decide +kernel
theorem dX12_fitsNow_36 : decode cX12_fitsNow 36 = .ok (.iload_n 1, 1) := by decide +kernel
theorem dX12_fitsNow_37 : decode cX12_fitsNow 37 = .ok (.isub, 1) := by decide +kernel
theorem dX12_fitsNow_38 : decode cX12_fitsNow 38 = .ok (.iload_n 2, 1) := by decide +kernel
theorem dX12_fitsNow_39 : decode cX12_fitsNow 39 = .ok (.irem, 1) := by decide +kernel
theorem dX12_fitsNow_40 : decode cX12_fitsNow 40 = .ok (.ifCond .ne 7, 3) := by decide +kernel
theorem dX12_fitsNow_43 : decode cX12_fitsNow 43 = .ok (.iconst 1, 1) := by decide +kernel
theorem dX12_fitsNow_44 : decode cX12_fitsNow 44 = .ok (.goto 4, 3) := by decide +kernel
theorem dX12_fitsNow_47 : decode cX12_fitsNow 47 = .ok (.iconst 0, 1) := by decide +kernel
theorem dX12_fitsNow_48 : decode cX12_fitsNow 48 = .ok (.istore_n 3, 1) := by decide +kernel
theorem dX12_fitsNow_49 : decode cX12_fitsNow 49 = .ok (.iinc 4 1, 3) := by decide +kernel
theorem dX12_fitsNow_52 : decode cX12_fitsNow 52 = .ok (.goto (-47), 3) := by decide +kernel
theorem dX12_fitsNow_55 : decode cX12_fitsNow 55 = .ok (.iload_n 3, 1) := by decide +kernel
theorem dX12_fitsNow_56 : decode cX12_fitsNow 56 = .ok (.ireturn, 1) := by decide +kernel
theorem dX12_fits_0 : decode cX12_fits 0 = .ok (.iload_n 1, 1) := by decide +kernel
theorem dX12_fits_1 : decode cX12_fits 1 = .ok (.invokestatic 103, 3) := by decide +kernel
theorem dX12_fits_4 : decode cX12_fits 4 = .ok (.ifCond .eq 11, 3) := by decide +kernel
theorem dX12_fits_7 : decode cX12_fits 7 = .ok (.iload_n 2, 1) := by decide +kernel
theorem dX12_fits_8 : decode cX12_fits 8 = .ok (.iload_n 3, 1) := by decide +kernel
theorem dX12_fits_9 : decode cX12_fits 9 = .ok (.invokestatic 145, 3) := by decide +kernel
theorem dX12_fits_12 : decode cX12_fits 12 = .ok (.ifCond .ne 6, 3) := by decide +kernel
theorem dX12_fits_15 : decode cX12_fits 15 = .ok (.bipush (-2), 2) := by decide +kernel
theorem dX12_fits_17 : decode cX12_fits 17 = .ok (.ireturn, 1) := by decide +kernel
theorem dX12_fits_18 : decode cX12_fits 18 = .ok (.aload_n 0, 1) := by decide +kernel
theorem dX12_fits_19 : decode cX12_fits 19 = .ok (.iload_n 1, 1) := by decide +kernel
theorem dX12_fits_20 : decode cX12_fits 20 = .ok (.iconst (-1), 1) := by decide +kernel
theorem dX12_fits_21 : decode cX12_fits 21 = .ok (.invokevirtual 132, 3) := by decide +kernel
theorem dX12_fits_24 : decode cX12_fits 24 = .ok (.aload_n 0, 1) := by decide +kernel
theorem dX12_fits_25 : decode cX12_fits 25 = .ok (.iload_n 2, 1) := by decide +kernel
theorem dX12_fits_26 : decode cX12_fits 26 = .ok (.iload_n 3, 1) := by decide +kernel
theorem dX12_fits_27 : decode cX12_fits 27 = .ok (.invokevirtual 148, 3) := by decide +kernel
theorem dX12_fits_30 : decode cX12_fits 30 = .ok (.ifCond .eq 7, 3) := by decide +kernel
theorem dX12_fits_33 : decode cX12_fits 33 = .ok (.iconst 1, 1) := by decide +kernel
theorem dX12_fits_34 : decode cX12_fits 34 = .ok (.goto 4, 3) := by decide +kernel
theorem dX12_fits_37 : decode cX12_fits 37 = .ok (.iconst 0, 1) := by decide +kernel
theorem dX12_fits_38 : decode cX12_fits 38 = .ok (.ireturn, 1) := by decide +kernel
theorem dX12_most_0 : decode cX12_most 0 = .ok (.iload_n 1, 1) := by decide +kernel
theorem dX12_most_1 : decode cX12_most 1 = .ok (.i2l, 1) := by decide +kernel
theorem dX12_most_2 : decode cX12_most 2 = .ok (.lconst 1, 1) := by decide +kernel
theorem dX12_most_3 : decode cX12_most 3 = .ok (.ldc2_w 151, 3) := by decide +kernel
theorem dX12_most_6 : decode cX12_most 6 = .ok (.invokestatic 97, 3) := by decide +kernel
theorem dX12_most_9 : decode cX12_most 9 = .ok (.ifCond .ne 6, 3) := by decide +kernel
theorem dX12_most_12 : decode cX12_most 12 = .ok (.bipush (-2), 2) := by decide +kernel
theorem dX12_most_14 : decode cX12_most 14 = .ok (.ireturn, 1) := by decide +kernel
theorem dX12_most_15 : decode cX12_most 15 = .ok (.aload_n 0, 1) := by decide +kernel
theorem dX12_most_16 : decode cX12_most 16 = .ok (.getfield 59, 3) := by decide +kernel
theorem dX12_most_19 : decode cX12_most 19 = .ok (.istore_n 2, 1) := by decide +kernel
theorem dX12_most_20 : decode cX12_most 20 = .ok (.aload_n 0, 1) := by decide +kernel
theorem dX12_most_21 : decode cX12_most 21 = .ok (.iload_n 1, 1) := by decide +kernel
theorem dX12_most_22 : decode cX12_most 22 = .ok (.putfield 59, 3) := by decide +kernel
theorem dX12_most_25 : decode cX12_most 25 = .ok (.iload_n 2, 1) := by decide +kernel
theorem dX12_most_26 : decode cX12_most 26 = .ok (.ireturn, 1) := by decide +kernel
theorem dX12_keeps_0 : decode cX12_keeps 0 = .ok (.iconst 0, 1) := by decide +kernel
theorem dX12_keeps_1 : decode cX12_keeps 1 = .ok (.istore 4, 2) := by decide +kernel
theorem dX12_keeps_3 : decode cX12_keeps 3 = .ok (.iload 4, 2) := by decide +kernel
theorem dX12_keeps_5 : decode cX12_keeps 5 = .ok (.bipush 34, 2) := by decide +kernel
theorem dX12_keeps_7 : decode cX12_keeps 7 = .ok (.if_icmp .ge 30, 3) := by decide +kernel
theorem dX12_keeps_10 : decode cX12_keeps 10 = .ok (.aload_n 1, 1) := by decide +kernel
theorem dX12_keeps_11 : decode cX12_keeps 11 = .ok (.bipush 34, 2) := by decide +kernel
theorem dX12_keeps_13 : decode cX12_keeps 13 = .ok (.iload_n 2, 1) := by decide +kernel
theorem dX12_keeps_14 : decode cX12_keeps 14 = .ok (.imul, 1) := by decide +kernel
theorem dX12_keeps_15 : decode cX12_keeps 15 = .ok (.iload 4, 2) := by decide +kernel
theorem dX12_keeps_17 : decode cX12_keeps 17 = .ok (.iadd, 1) := by decide +kernel
theorem dX12_keeps_18 : decode cX12_keeps 18 = .ok (.aload_n 0, 1) := by decide +kernel
theorem dX12_keeps_19 : decode cX12_keeps 19 = .ok (.getfield 7, 3) := by decide +kernel
theorem dX12_keeps_22 : decode cX12_keeps 22 = .ok (.bipush 66, 2) := by decide +kernel
theorem dX12_keeps_24 : decode cX12_keeps 24 = .ok (.iload_n 3, 1) := by decide +kernel
theorem dX12_keeps_25 : decode cX12_keeps 25 = .ok (.imul, 1) := by decide +kernel
theorem dX12_keeps_26 : decode cX12_keeps 26 = .ok (.iload 4, 2) := by decide +kernel
theorem dX12_keeps_28 : decode cX12_keeps 28 = .ok (.iadd, 1) := by decide +kernel
theorem dX12_keeps_29 : decode cX12_keeps 29 = .ok (.iaload, 1) := by decide +kernel
theorem dX12_keeps_30 : decode cX12_keeps 30 = .ok (.iastore, 1) := by decide +kernel
theorem dX12_keeps_31 : decode cX12_keeps 31 = .ok (.iinc 4 1, 3) := by decide +kernel
theorem dX12_keeps_34 : decode cX12_keeps 34 = .ok (.goto (-31), 3) := by decide +kernel
theorem dX12_keeps_37 : decode cX12_keeps 37 = .ok (.return_, 1) := by decide +kernel
theorem dX12_gets_0 : decode cX12_gets 0 = .ok (.aload_n 0, 1) := by decide +kernel
theorem dX12_gets_1 : decode cX12_gets 1 = .ok (.iload_n 1, 1) := by decide +kernel
theorem dX12_gets_2 : decode cX12_gets 2 = .ok (.lconst 0, 1) := by decide +kernel
theorem dX12_gets_3 : decode cX12_gets 3 = .ok (.invokevirtual 63, 3) := by decide +kernel
theorem dX12_gets_6 : decode cX12_gets 6 = .ok (.iconst 0, 1) := by decide +kernel
theorem dX12_gets_7 : decode cX12_gets 7 = .ok (.istore 4, 2) := by decide +kernel
theorem dX12_gets_9 : decode cX12_gets 9 = .ok (.iload 4, 2) := by decide +kernel
theorem dX12_gets_11 : decode cX12_gets 11 = .ok (.bipush 34, 2) := by decide +kernel
theorem dX12_gets_13 : decode cX12_gets 13 = .ok (.if_icmp .ge 30, 3) := by decide +kernel
theorem dX12_gets_16 : decode cX12_gets 16 = .ok (.aload_n 0, 1) := by decide +kernel
theorem dX12_gets_17 : decode cX12_gets 17 = .ok (.getfield 7, 3) := by decide +kernel
theorem dX12_gets_20 : decode cX12_gets 20 = .ok (.bipush 66, 2) := by decide +kernel
theorem dX12_gets_22 : decode cX12_gets 22 = .ok (.iload_n 1, 1) := by decide +kernel
theorem dX12_gets_23 : decode cX12_gets 23 = .ok (.imul, 1) := by decide +kernel
theorem dX12_gets_24 : decode cX12_gets 24 = .ok (.iload 4, 2) := by decide +kernel
theorem dX12_gets_26 : decode cX12_gets 26 = .ok (.iadd, 1) := by decide +kernel
theorem dX12_gets_27 : decode cX12_gets 27 = .ok (.aload_n 2, 1) := by decide +kernel
theorem dX12_gets_28 : decode cX12_gets 28 = .ok (.bipush 34, 2) := by decide +kernel
theorem dX12_gets_30 : decode cX12_gets 30 = .ok (.iload_n 3, 1) := by decide +kernel
theorem dX12_gets_31 : decode cX12_gets 31 = .ok (.imul, 1) := by decide +kernel
theorem dX12_gets_32 : decode cX12_gets 32 = .ok (.iload 4, 2) := by decide +kernel
theorem dX12_gets_34 : decode cX12_gets 34 = .ok (.iadd, 1) := by decide +kernel
theorem dX12_gets_35 : decode cX12_gets 35 = .ok (.iaload, 1) := by decide +kernel
theorem dX12_gets_36 : decode cX12_gets 36 = .ok (.iastore, 1) := by decide +kernel
theorem dX12_gets_37 : decode cX12_gets 37 = .ok (.iinc 4 1, 3) := by decide +kernel
theorem dX12_gets_40 : decode cX12_gets 40 = .ok (.goto (-31), 3) := by decide +kernel
theorem dX12_gets_43 : decode cX12_gets 43 = .ok (.aload_n 0, 1) := by decide +kernel
theorem dX12_gets_44 : decode cX12_gets 44 = .ok (.getfield 13, 3) := by decide +kernel
theorem dX12_gets_47 : decode cX12_gets 47 = .ok (.iload_n 1, 1) := by decide +kernel
theorem dX12_gets_48 : decode cX12_gets 48 = .ok (.bipush 34, 2) := by decide +kernel
theorem dX12_gets_50 : decode cX12_gets 50 = .ok (.iastore, 1) := by decide +kernel
theorem dX12_gets_51 : decode cX12_gets 51 = .ok (.aload_n 0, 1) := by decide +kernel
theorem dX12_gets_52 : decode cX12_gets 52 = .ok (.iload_n 1, 1) := by decide +kernel
theorem dX12_gets_53 : decode cX12_gets 53 = .ok (.invokevirtual 68, 3) := by decide +kernel
theorem dX12_gets_56 : decode cX12_gets 56 = .ok (.return_, 1) := by decide +kernel
theorem dX12_mayBe_0 : decode cX12_mayBe 0 = .ok (.aload_n 0, 1) := by decide +kernel
theorem dX12_mayBe_1 : decode cX12_mayBe 1 = .ok (.iload_n 1, 1) := by decide +kernel
theorem dX12_mayBe_2 : decode cX12_mayBe 2 = .ok (.iload_n 2, 1) := by decide +kernel
theorem dX12_mayBe_3 : decode cX12_mayBe 3 = .ok (.invokevirtual 148, 3) := by decide +kernel
theorem dX12_mayBe_6 : decode cX12_mayBe 6 = .ok (.ifCond .eq 36, 3) := by decide +kernel
theorem dX12_mayBe_9 : decode cX12_mayBe 9 = .ok (.aload_n 0, 1) := by decide +kernel
theorem dX12_mayBe_10 : decode cX12_mayBe 10 = .ok (.getfield 125, 3) := by decide +kernel
theorem dX12_mayBe_13 : decode cX12_mayBe 13 = .ok (.ifCond .eq 25, 3) := by decide +kernel
theorem dX12_mayBe_16 : decode cX12_mayBe 16 = .ok (.aload_n 0, 1) := by decide +kernel
theorem dX12_mayBe_17 : decode cX12_mayBe 17 = .ok (.getfield 19, 3) := by decide +kernel
theorem dX12_mayBe_20 : decode cX12_mayBe 20 = .ok (.aload_n 0, 1) := by decide +kernel
theorem dX12_mayBe_21 : decode cX12_mayBe 21 = .ok (.getfield 125, 3) := by decide +kernel
theorem dX12_mayBe_24 : decode cX12_mayBe 24 = .ok (.iconst 1, 1) := by decide +kernel
theorem dX12_mayBe_25 : decode cX12_mayBe 25 = .ok (.isub, 1) := by decide +kernel
theorem dX12_mayBe_26 : decode cX12_mayBe 26 = .ok (.iaload, 1) := by decide +kernel
theorem dX12_mayBe_27 : decode cX12_mayBe 27 = .ok (.iload_n 1, 1) := by decide +kernel
theorem dX12_mayBe_28 : decode cX12_mayBe 28 = .ok (.isub, 1) := by decide +kernel
theorem dX12_mayBe_29 : decode cX12_mayBe 29 = .ok (.iload_n 2, 1) := by decide +kernel
theorem dX12_mayBe_30 : decode cX12_mayBe 30 = .ok (.idiv, 1) := by decide +kernel
theorem dX12_mayBe_31 : decode cX12_mayBe 31 = .ok (.aload_n 0, 1) := by decide +kernel
theorem dX12_mayBe_32 : decode cX12_mayBe 32 = .ok (.getfield 59, 3) := by decide +kernel
theorem dX12_mayBe_35 : decode cX12_mayBe 35 = .ok (.if_icmp .ge 7, 3) := by decide +kernel
theorem dX12_mayBe_38 : decode cX12_mayBe 38 = .ok (.iconst 1, 1) := by decide +kernel
theorem dX12_mayBe_39 : decode cX12_mayBe 39 = .ok (.goto 4, 3) := by decide +kernel
theorem dX12_mayBe_42 : decode cX12_mayBe 42 = .ok (.iconst 0, 1) := by decide +kernel
theorem dX12_mayBe_43 : decode cX12_mayBe 43 = .ok (.ireturn, 1) := by decide +kernel
theorem dX12_greatest_0 : decode cX12_greatest 0 = .ok (.aload_n 0, 1) := by decide +kernel
theorem dX12_greatest_1 : decode cX12_greatest 1 = .ok (.getfield 125, 3) := by decide +kernel
theorem dX12_greatest_4 : decode cX12_greatest 4 = .ok (.ifCond .ne 7, 3) := by decide +kernel
theorem dX12_greatest_7 : decode cX12_greatest 7 = .ok (.iconst 0, 1) := by decide +kernel
theorem dX12_greatest_8 : decode cX12_greatest 8 = .ok (.goto 20, 3) := by decide +kernel
theorem dX12_greatest_11 : decode cX12_greatest 11 = .ok (.aload_n 0, 1) := by decide +kernel
theorem dX12_greatest_12 : decode cX12_greatest 12 = .ok (.getfield 19, 3) := by decide +kernel
theorem dX12_greatest_15 : decode cX12_greatest 15 = .ok (.aload_n 0, 1) := by decide +kernel
theorem dX12_greatest_16 : decode cX12_greatest 16 = .ok (.getfield 125, 3) := by decide +kernel
theorem dX12_greatest_19 : decode cX12_greatest 19 = .ok (.iconst 1, 1) := by decide +kernel
theorem dX12_greatest_20 : decode cX12_greatest 20 = .ok (.isub, 1) := by decide +kernel
theorem dX12_greatest_21 : decode cX12_greatest 21 = .ok (.iaload, 1) := by decide +kernel
theorem dX12_greatest_22 : decode cX12_greatest 22 = .ok (.iload_n 1, 1) := by decide +kernel
theorem dX12_greatest_23 : decode cX12_greatest 23 = .ok (.isub, 1) := by decide +kernel
theorem dX12_greatest_24 : decode cX12_greatest 24 = .ok (.iload_n 2, 1) := by decide +kernel
theorem dX12_greatest_25 : decode cX12_greatest 25 = .ok (.idiv, 1) := by decide +kernel
theorem dX12_greatest_26 : decode cX12_greatest 26 = .ok (.iconst 1, 1) := by decide +kernel
theorem dX12_greatest_27 : decode cX12_greatest 27 = .ok (.iadd, 1) := by decide +kernel
theorem dX12_greatest_28 : decode cX12_greatest 28 = .ok (.ireturn, 1) := by decide +kernel
theorem dX12_weighs_0 : decode cX12_weighs 0 = .ok (.aload_n 0, 1) := by decide +kernel
theorem dX12_weighs_1 : decode cX12_weighs 1 = .ok (.iload_n 1, 1) := by decide +kernel
theorem dX12_weighs_2 : decode cX12_weighs 2 = .ok (.iload_n 2, 1) := by decide +kernel
theorem dX12_weighs_3 : decode cX12_weighs 3 = .ok (.invokevirtual 153, 3) := by decide +kernel
theorem dX12_weighs_6 : decode cX12_weighs 6 = .ok (.istore_n 3, 1) := by decide +kernel
theorem dX12_weighs_7 : decode cX12_weighs 7 = .ok (.aload_n 0, 1) := by decide +kernel
theorem dX12_weighs_8 : decode cX12_weighs 8 = .ok (.iload_n 3, 1) := by decide +kernel
theorem dX12_weighs_9 : decode cX12_weighs 9 = .ok (.ifCond .ne 7, 3) := by decide +kernel
theorem dX12_weighs_12 : decode cX12_weighs 12 = .ok (.iconst 1, 1) := by decide +kernel
theorem dX12_weighs_13 : decode cX12_weighs 13 = .ok (.goto 4, 3) := by decide +kernel
theorem dX12_weighs_16 : decode cX12_weighs 16 = .ok (.iload_n 3, 1) := by decide +kernel
theorem dX12_weighs_17 : decode cX12_weighs 17 = .ok (.putfield 156, 3) := by decide +kernel
theorem dX12_weighs_20 : decode cX12_weighs 20 = .ok (.aload_n 0, 1) := by decide +kernel
theorem dX12_weighs_21 : decode cX12_weighs 21 = .ok (.iconst 2, 1) := by decide +kernel
theorem dX12_weighs_22 : decode cX12_weighs 22 = .ok (.lconst 1, 1) := by decide +kernel
theorem dX12_weighs_23 : decode cX12_weighs 23 = .ok (.invokevirtual 63, 3) := by decide +kernel
theorem dX12_weighs_26 : decode cX12_weighs 26 = .ok (.aload_n 0, 1) := by decide +kernel
theorem dX12_weighs_27 : decode cX12_weighs 27 = .ok (.getfield 156, 3) := by decide +kernel
theorem dX12_weighs_30 : decode cX12_weighs 30 = .ok (.iconst 1, 1) := by decide +kernel
theorem dX12_weighs_31 : decode cX12_weighs 31 = .ok (.iadd, 1) := by decide +kernel
theorem dX12_weighs_32 : decode cX12_weighs 32 = .ok (.istore 4, 2) := by decide +kernel
theorem dX12_weighs_34 : decode cX12_weighs 34 = .ok (.iload 4, 2) := by decide +kernel
theorem dX12_weighs_36 : decode cX12_weighs 36 = .ok (.aload_n 0, 1) := by decide +kernel
theorem dX12_weighs_37 : decode cX12_weighs 37 = .ok (.getfield 59, 3) := by decide +kernel
theorem dX12_weighs_40 : decode cX12_weighs 40 = .ok (.if_icmp .gt 16, 3) := by decide +kernel
theorem dX12_weighs_43 : decode cX12_weighs 43 = .ok (.aload_n 0, 1) := by decide +kernel
theorem dX12_weighs_44 : decode cX12_weighs 44 = .ok (.iconst 2, 1) := by decide +kernel
theorem dX12_weighs_45 : decode cX12_weighs 45 = .ok (.iload 4, 2) := by decide +kernel
theorem dX12_weighs_47 : decode cX12_weighs 47 = .ok (.invokevirtual 159, 3) := by decide +kernel
theorem dX12_weighs_50 : decode cX12_weighs 50 = .ok (.iinc 4 1, 3) := by decide +kernel
theorem dX12_weighs_53 : decode cX12_weighs 53 = .ok (.goto (-19), 3) := by decide +kernel
theorem dX12_weighs_56 : decode cX12_weighs 56 = .ok (.aload_n 0, 1) := by decide +kernel
theorem dX12_weighs_57 : decode cX12_weighs 57 = .ok (.iconst 3, 1) := by decide +kernel
theorem dX12_weighs_58 : decode cX12_weighs 58 = .ok (.lconst 0, 1) := by decide +kernel
theorem dX12_weighs_59 : decode cX12_weighs 59 = .ok (.invokevirtual 63, 3) := by decide +kernel
theorem dX12_weighs_62 : decode cX12_weighs 62 = .ok (.iconst 0, 1) := by decide +kernel
theorem dX12_weighs_63 : decode cX12_weighs 63 = .ok (.istore 4, 2) := by decide +kernel
theorem dX12_weighs_65 : decode cX12_weighs 65 = .ok (.iload 4, 2) := by decide +kernel
theorem dX12_weighs_67 : decode cX12_weighs 67 = .ok (.aload_n 0, 1) := by decide +kernel
theorem dX12_weighs_68 : decode cX12_weighs 68 = .ok (.getfield 156, 3) := by decide +kernel
theorem dX12_weighs_71 : decode cX12_weighs 71 = .ok (.if_icmp .ge 31, 3) := by decide +kernel
theorem dX12_weighs_74 : decode cX12_weighs 74 = .ok (.aload_n 0, 1) := by decide +kernel
theorem dX12_weighs_75 : decode cX12_weighs 75 = .ok (.aload_n 0, 1) := by decide +kernel
theorem dX12_weighs_76 : decode cX12_weighs 76 = .ok (.getfield 25, 3) := by decide +kernel
theorem dX12_weighs_79 : decode cX12_weighs 79 = .ok (.iload 4, 2) := by decide +kernel
theorem dX12_weighs_81 : decode cX12_weighs 81 = .ok (.iconst 3, 1) := by decide +kernel
theorem dX12_weighs_82 : decode cX12_weighs 82 = .ok (.invokevirtual 162, 3) := by decide +kernel
theorem dX12_weighs_85 : decode cX12_weighs 85 = .ok (.aload_n 0, 1) := by decide +kernel
theorem dX12_weighs_86 : decode cX12_weighs 86 = .ok (.aload_n 0, 1) := by decide +kernel
theorem dX12_weighs_87 : decode cX12_weighs 87 = .ok (.getfield 22, 3) := by decide +kernel
theorem dX12_weighs_90 : decode cX12_weighs 90 = .ok (.iload 4, 2) := by decide +kernel
theorem dX12_weighs_92 : decode cX12_weighs 92 = .ok (.iconst 3, 1) := by decide +kernel
theorem dX12_weighs_93 : decode cX12_weighs 93 = .ok (.invokevirtual 162, 3) := by decide +kernel
theorem dX12_weighs_96 : decode cX12_weighs 96 = .ok (.iinc 4 1, 3) := by decide +kernel
theorem dX12_weighs_99 : decode cX12_weighs 99 = .ok (.goto (-34), 3) := by decide +kernel
theorem dX12_weighs_102 : decode cX12_weighs 102 = .ok (.aload_n 0, 1) := by decide +kernel
theorem dX12_weighs_103 : decode cX12_weighs 103 = .ok (.getfield 156, 3) := by decide +kernel
theorem dX12_weighs_106 : decode cX12_weighs 106 = .ok (.istore 4, 2) := by decide +kernel
theorem dX12_weighs_108 : decode cX12_weighs 108 = .ok (.iload 4, 2) := by decide +kernel
theorem dX12_weighs_110 : decode cX12_weighs 110 = .ok (.aload_n 0, 1) := by decide +kernel
theorem dX12_weighs_111 : decode cX12_weighs 111 = .ok (.getfield 59, 3) := by decide +kernel
theorem dX12_weighs_114 : decode cX12_weighs 114 = .ok (.if_icmp .gt 65, 3) := by decide +kernel
theorem dX12_weighs_117 : decode cX12_weighs 117 = .ok (.iload 4, 2) := by decide +kernel
theorem dX12_weighs_119 : decode cX12_weighs 119 = .ok (.aload_n 0, 1) := by decide +kernel
theorem dX12_weighs_120 : decode cX12_weighs 120 = .ok (.getfield 156, 3) := by decide +kernel
theorem dX12_weighs_123 : decode cX12_weighs 123 = .ok (.if_icmp .le 22, 3) := by decide +kernel
theorem dX12_weighs_126 : decode cX12_weighs 126 = .ok (.aload_n 0, 1) := by decide +kernel
theorem dX12_weighs_127 : decode cX12_weighs 127 = .ok (.iconst 2, 1) := by decide +kernel
theorem dX12_weighs_128 : decode cX12_weighs 128 = .ok (.iload 4, 2) := by decide +kernel
theorem dX12_weighs_130 : decode cX12_weighs 130 = .ok (.aload_n 0, 1) := by decide +kernel
theorem dX12_weighs_131 : decode cX12_weighs 131 = .ok (.getfield 125, 3) := by decide +kernel
theorem dX12_weighs_134 : decode cX12_weighs 134 = .ok (.isub, 1) := by decide +kernel
theorem dX12_weighs_135 : decode cX12_weighs 135 = .ok (.invokevirtual 159, 3) := by decide +kernel
theorem dX12_weighs_138 : decode cX12_weighs 138 = .ok (.aload_n 0, 1) := by decide +kernel
theorem dX12_weighs_139 : decode cX12_weighs 139 = .ok (.iconst 2, 1) := by decide +kernel
theorem dX12_weighs_140 : decode cX12_weighs 140 = .ok (.iload 4, 2) := by decide +kernel
theorem dX12_weighs_142 : decode cX12_weighs 142 = .ok (.invokevirtual 166, 3) := by decide +kernel
theorem dX12_weighs_145 : decode cX12_weighs 145 = .ok (.aload_n 0, 1) := by decide +kernel
theorem dX12_weighs_146 : decode cX12_weighs 146 = .ok (.aload_n 0, 1) := by decide +kernel
theorem dX12_weighs_147 : decode cX12_weighs 147 = .ok (.getfield 22, 3) := by decide +kernel
theorem dX12_weighs_150 : decode cX12_weighs 150 = .ok (.iload 4, 2) := by decide +kernel
theorem dX12_weighs_152 : decode cX12_weighs 152 = .ok (.iconst 2, 1) := by decide +kernel
theorem dX12_weighs_153 : decode cX12_weighs 153 = .ok (.invokevirtual 162, 3) := by decide +kernel
theorem dX12_weighs_156 : decode cX12_weighs 156 = .ok (.aload_n 0, 1) := by decide +kernel
theorem dX12_weighs_157 : decode cX12_weighs 157 = .ok (.iconst 3, 1) := by decide +kernel
theorem dX12_weighs_158 : decode cX12_weighs 158 = .ok (.iconst 2, 1) := by decide +kernel
theorem dX12_weighs_159 : decode cX12_weighs 159 = .ok (.invokevirtual 169, 3) := by decide +kernel
theorem dX12_weighs_162 : decode cX12_weighs 162 = .ok (.aload_n 0, 1) := by decide +kernel
theorem dX12_weighs_163 : decode cX12_weighs 163 = .ok (.aload_n 0, 1) := by decide +kernel
theorem dX12_weighs_164 : decode cX12_weighs 164 = .ok (.getfield 25, 3) := by decide +kernel
theorem dX12_weighs_167 : decode cX12_weighs 167 = .ok (.iload 4, 2) := by decide +kernel
theorem dX12_weighs_169 : decode cX12_weighs 169 = .ok (.iconst 3, 1) := by decide +kernel
theorem dX12_weighs_170 : decode cX12_weighs 170 = .ok (.invokevirtual 162, 3) := by decide +kernel
theorem dX12_weighs_173 : decode cX12_weighs 173 = .ok (.iinc 4 1, 3) := by decide +kernel
theorem dX12_weighs_176 : decode cX12_weighs 176 = .ok (.goto (-68), 3) := by decide +kernel
theorem dX12_weighs_179 : decode cX12_weighs 179 = .ok (.return_, 1) := by decide +kernel
theorem dX12_ready_0 : decode cX12_ready 0 = .ok (.iload_n 1, 1) := by decide +kernel
theorem dX12_ready_1 : decode cX12_ready 1 = .ok (.invokestatic 103, 3) := by decide +kernel
theorem dX12_ready_4 : decode cX12_ready 4 = .ok (.ifCond .eq 16, 3) := by decide +kernel
theorem dX12_ready_7 : decode cX12_ready 7 = .ok (.iload_n 2, 1) := by decide +kernel
theorem dX12_ready_8 : decode cX12_ready 8 = .ok (.iload_n 3, 1) := by decide +kernel
theorem dX12_ready_9 : decode cX12_ready 9 = .ok (.invokestatic 145, 3) := by decide +kernel
theorem dX12_ready_12 : decode cX12_ready 12 = .ok (.ifCond .eq 8, 3) := by decide +kernel
theorem dX12_ready_15 : decode cX12_ready 15 = .ok (.iload 4, 2) := by decide +kernel
theorem dX12_ready_17 : decode cX12_ready 17 = .ok (.ifCond .ne 6, 3) := by decide +kernel
theorem dX12_ready_20 : decode cX12_ready 20 = .ok (.bipush (-2), 2) := by decide +kernel
theorem dX12_ready_22 : decode cX12_ready 22 = .ok (.ireturn, 1) := by decide +kernel
theorem dX12_ready_23 : decode cX12_ready 23 = .ok (.aload_n 0, 1) := by decide +kernel
theorem dX12_ready_24 : decode cX12_ready 24 = .ok (.iload_n 1, 1) := by decide +kernel
theorem dX12_ready_25 : decode cX12_ready 25 = .ok (.iconst (-1), 1) := by decide +kernel
theorem dX12_ready_26 : decode cX12_ready 26 = .ok (.invokevirtual 132, 3) := by decide +kernel
theorem dX12_ready_29 : decode cX12_ready 29 = .ok (.aload_n 0, 1) := by decide +kernel
theorem dX12_ready_30 : decode cX12_ready 30 = .ok (.iload_n 2, 1) := by decide +kernel
theorem dX12_ready_31 : decode cX12_ready 31 = .ok (.iload_n 3, 1) := by decide +kernel
theorem dX12_ready_32 : decode cX12_ready 32 = .ok (.invokevirtual 172, 3) := by decide +kernel
theorem dX12_ready_35 : decode cX12_ready 35 = .ok (.ifCond .ne 6, 3) := by decide +kernel
theorem dX12_ready_38 : decode cX12_ready 38 = .ok (.bipush (-3), 2) := by decide +kernel
theorem dX12_ready_40 : decode cX12_ready 40 = .ok (.ireturn, 1) := by decide +kernel
theorem dX12_ready_41 : decode cX12_ready 41 = .ok (.aload_n 0, 1) := by decide +kernel
theorem dX12_ready_42 : decode cX12_ready 42 = .ok (.iload_n 2, 1) := by decide +kernel
theorem dX12_ready_43 : decode cX12_ready 43 = .ok (.iload_n 3, 1) := by decide +kernel
theorem dX12_ready_44 : decode cX12_ready 44 = .ok (.invokevirtual 175, 3) := by decide +kernel
theorem dX12_ready_47 : decode cX12_ready 47 = .ok (.iconst 1, 1) := by decide +kernel
theorem dX12_ready_48 : decode cX12_ready 48 = .ok (.ireturn, 1) := by decide +kernel
theorem dX12_odds_0 : decode cX12_odds 0 = .ok (.aload_n 0, 1) := by decide +kernel
theorem dX12_odds_1 : decode cX12_odds 1 = .ok (.iload_n 1, 1) := by decide +kernel
theorem dX12_odds_2 : decode cX12_odds 2 = .ok (.iload_n 2, 1) := by decide +kernel
theorem dX12_odds_3 : decode cX12_odds 3 = .ok (.iload_n 3, 1) := by decide +kernel
theorem dX12_odds_4 : decode cX12_odds 4 = .ok (.iload 4, 2) := by decide +kernel
theorem dX12_odds_6 : decode cX12_odds 6 = .ok (.i2l, 1) := by decide +kernel
theorem dX12_odds_7 : decode cX12_odds 7 = .ok (.lconst 0, 1) := by decide +kernel
theorem dX12_odds_8 : decode cX12_odds 8 = .ok (.ldc2_w 178, 3) := by decide +kernel
theorem dX12_odds_11 : decode cX12_odds 11 = .ok (.invokestatic 97, 3) := by decide +kernel
theorem dX12_odds_14 : decode cX12_odds 14 = .ok (.invokevirtual 180, 3) := by decide +kernel
theorem dX12_odds_17 : decode cX12_odds 17 = .ok (.istore 5, 2) := by decide +kernel
theorem dX12_odds_19 : decode cX12_odds 19 = .ok (.iload 5, 2) := by decide +kernel
theorem dX12_odds_21 : decode cX12_odds 21 = .ok (.iconst 1, 1) := by decide +kernel
theorem dX12_odds_22 : decode cX12_odds 22 = .ok (.if_icmp .ne 49, 3) := by decide +kernel
theorem dX12_odds_25 : decode cX12_odds 25 = .ok (.aload_n 0, 1) := by decide +kernel
theorem dX12_odds_26 : decode cX12_odds 26 = .ok (.iconst 1, 1) := by decide +kernel
theorem dX12_odds_27 : decode cX12_odds 27 = .ok (.aload_n 0, 1) := by decide +kernel
theorem dX12_odds_28 : decode cX12_odds 28 = .ok (.getfield 25, 3) := by decide +kernel
theorem dX12_odds_31 : decode cX12_odds 31 = .ok (.aload_n 0, 1) := by decide +kernel
theorem dX12_odds_32 : decode cX12_odds 32 = .ok (.getfield 59, 3) := by decide +kernel
theorem dX12_odds_35 : decode cX12_odds 35 = .ok (.invokevirtual 184, 3) := by decide +kernel
theorem dX12_odds_38 : decode cX12_odds 38 = .ok (.iload 4, 2) := by decide +kernel
theorem dX12_odds_40 : decode cX12_odds 40 = .ok (.aload_n 0, 1) := by decide +kernel
theorem dX12_odds_41 : decode cX12_odds 41 = .ok (.getfield 59, 3) := by decide +kernel
theorem dX12_odds_44 : decode cX12_odds 44 = .ok (.if_icmp .le 12, 3) := by decide +kernel
theorem dX12_odds_47 : decode cX12_odds 47 = .ok (.aload_n 0, 1) := by decide +kernel
theorem dX12_odds_48 : decode cX12_odds 48 = .ok (.iconst 0, 1) := by decide +kernel
theorem dX12_odds_49 : decode cX12_odds 49 = .ok (.lconst 0, 1) := by decide +kernel
theorem dX12_odds_50 : decode cX12_odds 50 = .ok (.invokevirtual 63, 3) := by decide +kernel
theorem dX12_odds_53 : decode cX12_odds 53 = .ok (.goto 14, 3) := by decide +kernel
theorem dX12_odds_56 : decode cX12_odds 56 = .ok (.aload_n 0, 1) := by decide +kernel
theorem dX12_odds_57 : decode cX12_odds 57 = .ok (.iconst 0, 1) := by decide +kernel
theorem dX12_odds_58 : decode cX12_odds 58 = .ok (.aload_n 0, 1) := by decide +kernel
theorem dX12_odds_59 : decode cX12_odds 59 = .ok (.getfield 22, 3) := by decide +kernel
theorem dX12_odds_62 : decode cX12_odds 62 = .ok (.iload 4, 2) := by decide +kernel
theorem dX12_odds_64 : decode cX12_odds 64 = .ok (.invokevirtual 184, 3) := by decide +kernel
theorem dX12_odds_67 : decode cX12_odds 67 = .ok (.aload_n 0, 1) := by decide +kernel
theorem dX12_odds_68 : decode cX12_odds 68 = .ok (.invokevirtual 94, 3) := by decide +kernel
theorem dX12_odds_71 : decode cX12_odds 71 = .ok (.iload 5, 2) := by decide +kernel
theorem dX12_odds_73 : decode cX12_odds 73 = .ok (.ireturn, 1) := by decide +kernel
theorem dX12_atLeast_0 : decode cX12_atLeast 0 = .ok (.aload_n 0, 1) := by decide +kernel
theorem dX12_atLeast_1 : decode cX12_atLeast 1 = .ok (.iload_n 1, 1) := by decide +kernel
theorem dX12_atLeast_2 : decode cX12_atLeast 2 = .ok (.iload_n 2, 1) := by decide +kernel
theorem dX12_atLeast_3 : decode cX12_atLeast 3 = .ok (.iload_n 3, 1) := by decide +kernel
theorem dX12_atLeast_4 : decode cX12_atLeast 4 = .ok (.iload 4, 2) := by decide +kernel
theorem dX12_atLeast_6 : decode cX12_atLeast 6 = .ok (.i2l, 1) := by decide +kernel
theorem dX12_atLeast_7 : decode cX12_atLeast 7 = .ok (.lconst 0, 1) := by decide +kernel
theorem dX12_atLeast_8 : decode cX12_atLeast 8 = .ok (.ldc2_w 178, 3) := by decide +kernel
theorem dX12_atLeast_11 : decode cX12_atLeast 11 = .ok (.invokestatic 97, 3) := by decide +kernel
theorem dX12_atLeast_14 : decode cX12_atLeast 14 = .ok (.invokevirtual 180, 3) := by decide +kernel
theorem dX12_atLeast_17 : decode cX12_atLeast 17 = .ok (.istore 5, 2) := by decide +kernel
theorem dX12_atLeast_19 : decode cX12_atLeast 19 = .ok (.iload 5, 2) := by decide +kernel
theorem dX12_atLeast_21 : decode cX12_atLeast 21 = .ok (.iconst 1, 1) := by decide +kernel
theorem dX12_atLeast_22 : decode cX12_atLeast 22 = .ok (.if_icmp .ne 73, 3) := by decide +kernel
theorem dX12_atLeast_25 : decode cX12_atLeast 25 = .ok (.aload_n 0, 1) := by decide +kernel
theorem dX12_atLeast_26 : decode cX12_atLeast 26 = .ok (.iconst 1, 1) := by decide +kernel
theorem dX12_atLeast_27 : decode cX12_atLeast 27 = .ok (.aload_n 0, 1) := by decide +kernel
theorem dX12_atLeast_28 : decode cX12_atLeast 28 = .ok (.getfield 25, 3) := by decide +kernel
theorem dX12_atLeast_31 : decode cX12_atLeast 31 = .ok (.aload_n 0, 1) := by decide +kernel
theorem dX12_atLeast_32 : decode cX12_atLeast 32 = .ok (.getfield 59, 3) := by decide +kernel
theorem dX12_atLeast_35 : decode cX12_atLeast 35 = .ok (.invokevirtual 184, 3) := by decide +kernel
theorem dX12_atLeast_38 : decode cX12_atLeast 38 = .ok (.aload_n 0, 1) := by decide +kernel
theorem dX12_atLeast_39 : decode cX12_atLeast 39 = .ok (.iconst 0, 1) := by decide +kernel
theorem dX12_atLeast_40 : decode cX12_atLeast 40 = .ok (.aload_n 0, 1) := by decide +kernel
theorem dX12_atLeast_41 : decode cX12_atLeast 41 = .ok (.getfield 25, 3) := by decide +kernel
theorem dX12_atLeast_44 : decode cX12_atLeast 44 = .ok (.aload_n 0, 1) := by decide +kernel
theorem dX12_atLeast_45 : decode cX12_atLeast 45 = .ok (.getfield 59, 3) := by decide +kernel
theorem dX12_atLeast_48 : decode cX12_atLeast 48 = .ok (.invokevirtual 184, 3) := by decide +kernel
theorem dX12_atLeast_51 : decode cX12_atLeast 51 = .ok (.iload 4, 2) := by decide +kernel
theorem dX12_atLeast_53 : decode cX12_atLeast 53 = .ok (.ifCond .le 38, 3) := by decide +kernel
theorem dX12_atLeast_56 : decode cX12_atLeast 56 = .ok (.aload_n 0, 1) := by decide +kernel
theorem dX12_atLeast_57 : decode cX12_atLeast 57 = .ok (.iconst 2, 1) := by decide +kernel
theorem dX12_atLeast_58 : decode cX12_atLeast 58 = .ok (.aload_n 0, 1) := by decide +kernel
theorem dX12_atLeast_59 : decode cX12_atLeast 59 = .ok (.getfield 25, 3) := by decide +kernel
theorem dX12_atLeast_62 : decode cX12_atLeast 62 = .ok (.iload 4, 2) := by decide +kernel
theorem dX12_atLeast_64 : decode cX12_atLeast 64 = .ok (.aload_n 0, 1) := by decide +kernel
theorem dX12_atLeast_65 : decode cX12_atLeast 65 = .ok (.getfield 59, 3) := by decide +kernel
theorem dX12_atLeast_68 : decode cX12_atLeast 68 = .ok (.if_icmp .le 10, 3) := by decide +kernel
theorem dX12_atLeast_71 : decode cX12_atLeast 71 = .ok (.aload_n 0, 1) := by decide +kernel
theorem dX12_atLeast_72 : decode cX12_atLeast 72 = .ok (.getfield 59, 3) := by decide +kernel
theorem dX12_atLeast_75 : decode cX12_atLeast 75 = .ok (.goto 7, 3) := by decide +kernel
theorem dX12_atLeast_78 : decode cX12_atLeast 78 = .ok (.iload 4, 2) := by decide +kernel
theorem dX12_atLeast_80 : decode cX12_atLeast 80 = .ok (.iconst 1, 1) := by decide +kernel
theorem dX12_atLeast_81 : decode cX12_atLeast 81 = .ok (.isub, 1) := by decide +kernel
theorem dX12_atLeast_82 : decode cX12_atLeast 82 = .ok (.invokevirtual 184, 3) := by decide +kernel
theorem dX12_atLeast_85 : decode cX12_atLeast 85 = .ok (.aload_n 0, 1) := by decide +kernel
theorem dX12_atLeast_86 : decode cX12_atLeast 86 = .ok (.iconst 0, 1) := by decide +kernel
theorem dX12_atLeast_87 : decode cX12_atLeast 87 = .ok (.iconst 2, 1) := by decide +kernel
theorem dX12_atLeast_88 : decode cX12_atLeast 88 = .ok (.invokevirtual 88, 3) := by decide +kernel
theorem dX12_atLeast_91 : decode cX12_atLeast 91 = .ok (.aload_n 0, 1) := by decide +kernel
theorem dX12_atLeast_92 : decode cX12_atLeast 92 = .ok (.invokevirtual 94, 3) := by decide +kernel
theorem dX12_atLeast_95 : decode cX12_atLeast 95 = .ok (.iload 5, 2) := by decide +kernel
theorem dX12_atLeast_97 : decode cX12_atLeast 97 = .ok (.ireturn, 1) := by decide +kernel
theorem dX12_isPart_0 : decode cX12_isPart 0 = .ok (.iload_n 1, 1) := by decide +kernel
theorem dX12_isPart_1 : decode cX12_isPart 1 = .ok (.i2l, 1) := by decide +kernel
theorem dX12_isPart_2 : decode cX12_isPart 2 = .ok (.lconst 1, 1) := by decide +kernel
theorem dX12_isPart_3 : decode cX12_isPart 3 = .ok (.ldc2_w 188, 3) := by decide +kernel
theorem dX12_isPart_6 : decode cX12_isPart 6 = .ok (.invokestatic 97, 3) := by decide +kernel
theorem dX12_isPart_9 : decode cX12_isPart 9 = .ok (.ifCond .eq 18, 3) := by decide +kernel
theorem dX12_isPart_12 : decode cX12_isPart 12 = .ok (.iload_n 0, 1) := by decide +kernel
theorem dX12_isPart_13 : decode cX12_isPart 13 = .ok (.i2l, 1) := by decide +kernel
theorem dX12_isPart_14 : decode cX12_isPart 14 = .ok (.lconst 1, 1) := by decide +kernel
theorem dX12_isPart_15 : decode cX12_isPart 15 = .ok (.iload_n 1, 1) := by decide +kernel
theorem dX12_isPart_16 : decode cX12_isPart 16 = .ok (.i2l, 1) := by decide +kernel
theorem dX12_isPart_17 : decode cX12_isPart 17 = .ok (.invokestatic 97, 3) := by decide +kernel
theorem dX12_isPart_20 : decode cX12_isPart 20 = .ok (.ifCond .eq 7, 3) := by decide +kernel
theorem dX12_isPart_23 : decode cX12_isPart 23 = .ok (.iconst 1, 1) := by decide +kernel
theorem dX12_isPart_24 : decode cX12_isPart 24 = .ok (.goto 4, 3) := by decide +kernel
theorem dX12_isPart_27 : decode cX12_isPart 27 = .ok (.iconst 0, 1) := by decide +kernel
theorem dX12_isPart_28 : decode cX12_isPart 28 = .ok (.ireturn, 1) := by decide +kernel
theorem dX12_spans_0 : decode cX12_spans 0 = .ok (.aload_n 0, 1) := by decide +kernel
theorem dX12_spans_1 : decode cX12_spans 1 = .ok (.iconst 5, 1) := by decide +kernel
theorem dX12_spans_2 : decode cX12_spans 2 = .ok (.aload_n 0, 1) := by decide +kernel
theorem dX12_spans_3 : decode cX12_spans 3 = .ok (.getfield 25, 3) := by decide +kernel
theorem dX12_spans_6 : decode cX12_spans 6 = .ok (.aload_n 0, 1) := by decide +kernel
theorem dX12_spans_7 : decode cX12_spans 7 = .ok (.getfield 59, 3) := by decide +kernel
theorem dX12_spans_10 : decode cX12_spans 10 = .ok (.invokevirtual 184, 3) := by decide +kernel
theorem dX12_spans_13 : decode cX12_spans 13 = .ok (.aload_n 0, 1) := by decide +kernel
theorem dX12_spans_14 : decode cX12_spans 14 = .ok (.iconst 5, 1) := by decide +kernel
theorem dX12_spans_15 : decode cX12_spans 15 = .ok (.iload_n 1, 1) := by decide +kernel
theorem dX12_spans_16 : decode cX12_spans 16 = .ok (.invokevirtual 159, 3) := by decide +kernel
theorem dX12_spans_19 : decode cX12_spans 19 = .ok (.iconst 0, 1) := by decide +kernel
theorem dX12_spans_20 : decode cX12_spans 20 = .ok (.istore_n 3, 1) := by decide +kernel
theorem dX12_spans_21 : decode cX12_spans 21 = .ok (.iload_n 3, 1) := by decide +kernel
theorem dX12_spans_22 : decode cX12_spans 22 = .ok (.aload_n 0, 1) := by decide +kernel
theorem dX12_spans_23 : decode cX12_spans 23 = .ok (.getfield 59, 3) := by decide +kernel
theorem dX12_spans_26 : decode cX12_spans 26 = .ok (.if_icmp .ge 94, 3) := by decide +kernel
theorem dX12_spans_29 : decode cX12_spans 29 = .ok (.aload_n 0, 1) := by decide +kernel
theorem dX12_spans_30 : decode cX12_spans 30 = .ok (.getfield 156, 3) := by decide +kernel
theorem dX12_spans_33 : decode cX12_spans 33 = .ok (.istore 4, 2) := by decide +kernel
theorem dX12_spans_35 : decode cX12_spans 35 = .ok (.iload 4, 2) := by decide +kernel
theorem dX12_spans_37 : decode cX12_spans 37 = .ok (.iload_n 3, 1) := by decide +kernel
theorem dX12_spans_38 : decode cX12_spans 38 = .ok (.iadd, 1) := by decide +kernel
theorem dX12_spans_39 : decode cX12_spans 39 = .ok (.aload_n 0, 1) := by decide +kernel
theorem dX12_spans_40 : decode cX12_spans 40 = .ok (.getfield 59, 3) := by decide +kernel
theorem dX12_spans_43 : decode cX12_spans 43 = .ok (.if_icmp .gt 71, 3) := by decide +kernel
theorem dX12_spans_46 : decode cX12_spans 46 = .ok (.aload_n 0, 1) := by decide +kernel
theorem dX12_spans_47 : decode cX12_spans 47 = .ok (.iconst 2, 1) := by decide +kernel
theorem dX12_spans_48 : decode cX12_spans 48 = .ok (.aload_n 0, 1) := by decide +kernel
theorem dX12_spans_49 : decode cX12_spans 49 = .ok (.getfield 25, 3) := by decide +kernel
theorem dX12_spans_52 : decode cX12_spans 52 = .ok (.iload 4, 2) := by decide +kernel
theorem dX12_spans_54 : decode cX12_spans 54 = .ok (.iload_n 3, 1) := by decide +kernel
theorem dX12_spans_55 : decode cX12_spans 55 = .ok (.iadd, 1) := by decide +kernel
theorem dX12_spans_56 : decode cX12_spans 56 = .ok (.invokevirtual 184, 3) := by decide +kernel
theorem dX12_spans_59 : decode cX12_spans 59 = .ok (.aload_n 0, 1) := by decide +kernel
theorem dX12_spans_60 : decode cX12_spans 60 = .ok (.iconst 3, 1) := by decide +kernel
theorem dX12_spans_61 : decode cX12_spans 61 = .ok (.aload_n 0, 1) := by decide +kernel
theorem dX12_spans_62 : decode cX12_spans 62 = .ok (.getfield 25, 3) := by decide +kernel
theorem dX12_spans_65 : decode cX12_spans 65 = .ok (.iload 4, 2) := by decide +kernel
theorem dX12_spans_67 : decode cX12_spans 67 = .ok (.iconst 1, 1) := by decide +kernel
theorem dX12_spans_68 : decode cX12_spans 68 = .ok (.isub, 1) := by decide +kernel
theorem dX12_spans_69 : decode cX12_spans 69 = .ok (.invokevirtual 184, 3) := by decide +kernel
theorem dX12_spans_72 : decode cX12_spans 72 = .ok (.aload_n 0, 1) := by decide +kernel
theorem dX12_spans_73 : decode cX12_spans 73 = .ok (.iconst 2, 1) := by decide +kernel
theorem dX12_spans_74 : decode cX12_spans 74 = .ok (.iconst 3, 1) := by decide +kernel
theorem dX12_spans_75 : decode cX12_spans 75 = .ok (.invokevirtual 88, 3) := by decide +kernel
theorem dX12_spans_78 : decode cX12_spans 78 = .ok (.aload_n 0, 1) := by decide +kernel
theorem dX12_spans_79 : decode cX12_spans 79 = .ok (.iconst 2, 1) := by decide +kernel
theorem dX12_spans_80 : decode cX12_spans 80 = .ok (.iload_n 2, 1) := by decide +kernel
theorem dX12_spans_81 : decode cX12_spans 81 = .ok (.invokevirtual 159, 3) := by decide +kernel
theorem dX12_spans_84 : decode cX12_spans 84 = .ok (.aload_n 0, 1) := by decide +kernel
theorem dX12_spans_85 : decode cX12_spans 85 = .ok (.iconst 2, 1) := by decide +kernel
theorem dX12_spans_86 : decode cX12_spans 86 = .ok (.iconst 5, 1) := by decide +kernel
theorem dX12_spans_87 : decode cX12_spans 87 = .ok (.invokevirtual 84, 3) := by decide +kernel
theorem dX12_spans_90 : decode cX12_spans 90 = .ok (.ifCond .lt 18, 3) := by decide +kernel
theorem dX12_spans_93 : decode cX12_spans 93 = .ok (.aload_n 0, 1) := by decide +kernel
theorem dX12_spans_94 : decode cX12_spans 94 = .ok (.iload 4, 2) := by decide +kernel
theorem dX12_spans_96 : decode cX12_spans 96 = .ok (.putfield 190, 3) := by decide +kernel
theorem dX12_spans_99 : decode cX12_spans 99 = .ok (.aload_n 0, 1) := by decide +kernel
theorem dX12_spans_100 : decode cX12_spans 100 = .ok (.iload 4, 2) := by decide +kernel
theorem dX12_spans_102 : decode cX12_spans 102 = .ok (.iload_n 3, 1) := by decide +kernel
theorem dX12_spans_103 : decode cX12_spans 103 = .ok (.iadd, 1) := by decide +kernel
theorem dX12_spans_104 : decode cX12_spans 104 = .ok (.putfield 193, 3) := by decide +kernel
theorem dX12_spans_107 : decode cX12_spans 107 = .ok (.return_, 1) := by decide +kernel
theorem dX12_spans_108 : decode cX12_spans 108 = .ok (.iinc 4 1, 3) := by decide +kernel
theorem dX12_spans_111 : decode cX12_spans 111 = .ok (.goto (-76), 3) := by decide +kernel
theorem dX12_spans_114 : decode cX12_spans 114 = .ok (.iinc 3 1, 3) := by decide +kernel
theorem dX12_spans_117 : decode cX12_spans 117 = .ok (.goto (-96), 3) := by decide +kernel
theorem dX12_spans_120 : decode cX12_spans 120 = .ok (.return_, 1) := by decide +kernel
theorem dX12_span_0 : decode cX12_span 0 = .ok (.aload_n 0, 1) := by decide +kernel
theorem dX12_span_1 : decode cX12_span 1 = .ok (.iload_n 1, 1) := by decide +kernel
theorem dX12_span_2 : decode cX12_span 2 = .ok (.iload_n 2, 1) := by decide +kernel
theorem dX12_span_3 : decode cX12_span 3 = .ok (.iload_n 3, 1) := by decide +kernel
theorem dX12_span_4 : decode cX12_span 4 = .ok (.iload 4, 2) := by decide +kernel
theorem dX12_span_6 : decode cX12_span 6 = .ok (.iload 5, 2) := by decide +kernel
theorem dX12_span_8 : decode cX12_span 8 = .ok (.invokestatic 196, 3) := by decide +kernel
theorem dX12_span_11 : decode cX12_span 11 = .ok (.ifCond .eq 18, 3) := by decide +kernel
theorem dX12_span_14 : decode cX12_span 14 = .ok (.iload 6, 2) := by decide +kernel
theorem dX12_span_16 : decode cX12_span 16 = .ok (.i2l, 1) := by decide +kernel
theorem dX12_span_17 : decode cX12_span 17 = .ok (.lconst 0, 1) := by decide +kernel
theorem dX12_span_18 : decode cX12_span 18 = .ok (.lconst 1, 1) := by decide +kernel
theorem dX12_span_19 : decode cX12_span 19 = .ok (.invokestatic 97, 3) := by decide +kernel
theorem dX12_span_22 : decode cX12_span 22 = .ok (.ifCond .eq 7, 3) := by decide +kernel
theorem dX12_span_25 : decode cX12_span 25 = .ok (.iconst 1, 1) := by decide +kernel
theorem dX12_span_26 : decode cX12_span 26 = .ok (.goto 4, 3) := by decide +kernel
theorem dX12_span_29 : decode cX12_span 29 = .ok (.iconst 0, 1) := by decide +kernel
theorem dX12_span_30 : decode cX12_span 30 = .ok (.invokevirtual 180, 3) := by decide +kernel
theorem dX12_span_33 : decode cX12_span 33 = .ok (.istore 7, 2) := by decide +kernel
theorem dX12_span_35 : decode cX12_span 35 = .ok (.iload 7, 2) := by decide +kernel
theorem dX12_span_37 : decode cX12_span 37 = .ok (.iconst 1, 1) := by decide +kernel
theorem dX12_span_38 : decode cX12_span 38 = .ok (.if_icmp .eq 6, 3) := by decide +kernel
theorem dX12_span_41 : decode cX12_span 41 = .ok (.iload 7, 2) := by decide +kernel
theorem dX12_span_43 : decode cX12_span 43 = .ok (.ireturn, 1) := by decide +kernel
theorem dX12_span_44 : decode cX12_span 44 = .ok (.aload_n 0, 1) := by decide +kernel
theorem dX12_span_45 : decode cX12_span 45 = .ok (.iload 4, 2) := by decide +kernel
theorem dX12_span_47 : decode cX12_span 47 = .ok (.iload 5, 2) := by decide +kernel
theorem dX12_span_49 : decode cX12_span 49 = .ok (.invokevirtual 199, 3) := by decide +kernel
theorem dX12_span_52 : decode cX12_span 52 = .ok (.iload 6, 2) := by decide +kernel
theorem dX12_span_54 : decode cX12_span 54 = .ok (.ifCond .ne 10, 3) := by decide +kernel
theorem dX12_span_57 : decode cX12_span 57 = .ok (.aload_n 0, 1) := by decide +kernel
theorem dX12_span_58 : decode cX12_span 58 = .ok (.getfield 190, 3) := by decide +kernel
theorem dX12_span_61 : decode cX12_span 61 = .ok (.goto 7, 3) := by decide +kernel
theorem dX12_span_64 : decode cX12_span 64 = .ok (.aload_n 0, 1) := by decide +kernel
theorem dX12_span_65 : decode cX12_span 65 = .ok (.getfield 193, 3) := by decide +kernel
theorem dX12_span_68 : decode cX12_span 68 = .ok (.ireturn, 1) := by decide +kernel
theorem dX12_told_0 : decode cX12_told 0 = .ok (.aload_n 0, 1) := by decide +kernel
theorem dX12_told_1 : decode cX12_told 1 = .ok (.iload_n 1, 1) := by decide +kernel
theorem dX12_told_2 : decode cX12_told 2 = .ok (.iload_n 2, 1) := by decide +kernel
theorem dX12_told_3 : decode cX12_told 3 = .ok (.iload_n 3, 1) := by decide +kernel
theorem dX12_told_4 : decode cX12_told 4 = .ok (.iload 4, 2) := by decide +kernel
theorem dX12_told_6 : decode cX12_told 6 = .ok (.i2l, 1) := by decide +kernel
theorem dX12_told_7 : decode cX12_told 7 = .ok (.lconst 0, 1) := by decide +kernel
theorem dX12_told_8 : decode cX12_told 8 = .ok (.lconst 1, 1) := by decide +kernel
theorem dX12_told_9 : decode cX12_told 9 = .ok (.invokestatic 97, 3) := by decide +kernel
theorem dX12_told_12 : decode cX12_told 12 = .ok (.invokevirtual 180, 3) := by decide +kernel
theorem dX12_told_15 : decode cX12_told 15 = .ok (.istore 5, 2) := by decide +kernel
theorem dX12_told_17 : decode cX12_told 17 = .ok (.iload 5, 2) := by decide +kernel
theorem dX12_told_19 : decode cX12_told 19 = .ok (.iconst 1, 1) := by decide +kernel
theorem dX12_told_20 : decode cX12_told 20 = .ok (.if_icmp .eq 6, 3) := by decide +kernel
theorem dX12_told_23 : decode cX12_told 23 = .ok (.iload 5, 2) := by decide +kernel
theorem dX12_told_25 : decode cX12_told 25 = .ok (.ireturn, 1) := by decide +kernel
theorem dX12_told_26 : decode cX12_told 26 = .ok (.aload_n 0, 1) := by decide +kernel
theorem dX12_told_27 : decode cX12_told 27 = .ok (.iload_n 2, 1) := by decide +kernel
theorem dX12_told_28 : decode cX12_told 28 = .ok (.iload_n 3, 1) := by decide +kernel
theorem dX12_told_29 : decode cX12_told 29 = .ok (.invokevirtual 153, 3) := by decide +kernel
theorem dX12_told_32 : decode cX12_told 32 = .ok (.istore 6, 2) := by decide +kernel
theorem dX12_told_34 : decode cX12_told 34 = .ok (.iload 4, 2) := by decide +kernel
theorem dX12_told_36 : decode cX12_told 36 = .ok (.ifCond .ne 10, 3) := by decide +kernel
theorem dX12_told_39 : decode cX12_told 39 = .ok (.aload_n 0, 1) := by decide +kernel
theorem dX12_told_40 : decode cX12_told 40 = .ok (.getfield 156, 3) := by decide +kernel
theorem dX12_told_43 : decode cX12_told 43 = .ok (.goto 26, 3) := by decide +kernel
theorem dX12_told_46 : decode cX12_told 46 = .ok (.aload_n 0, 1) := by decide +kernel
theorem dX12_told_47 : decode cX12_told 47 = .ok (.getfield 125, 3) := by decide +kernel
theorem dX12_told_50 : decode cX12_told 50 = .ok (.ifCond .ne 7, 3) := by decide +kernel
theorem dX12_told_53 : decode cX12_told 53 = .ok (.iconst 0, 1) := by decide +kernel
theorem dX12_told_54 : decode cX12_told 54 = .ok (.goto 15, 3) := by decide +kernel
theorem dX12_told_57 : decode cX12_told 57 = .ok (.iload 6, 2) := by decide +kernel
theorem dX12_told_59 : decode cX12_told 59 = .ok (.iload 6, 2) := by decide +kernel
theorem dX12_told_61 : decode cX12_told 61 = .ok (.aload_n 0, 1) := by decide +kernel
theorem dX12_told_62 : decode cX12_told 62 = .ok (.getfield 125, 3) := by decide +kernel
theorem dX12_told_65 : decode cX12_told 65 = .ok (.idiv, 1) := by decide +kernel
theorem dX12_told_66 : decode cX12_told 66 = .ok (.iadd, 1) := by decide +kernel
theorem dX12_told_67 : decode cX12_told 67 = .ok (.iconst 1, 1) := by decide +kernel
theorem dX12_told_68 : decode cX12_told 68 = .ok (.isub, 1) := by decide +kernel
theorem dX12_told_69 : decode cX12_told 69 = .ok (.ireturn, 1) := by decide +kernel
theorem dX12_far_0 : decode cX12_far 0 = .ok (.aload_n 0, 1) := by decide +kernel
theorem dX12_far_1 : decode cX12_far 1 = .ok (.iload_n 1, 1) := by decide +kernel
theorem dX12_far_2 : decode cX12_far 2 = .ok (.invokevirtual 119, 3) := by decide +kernel
theorem dX12_far_5 : decode cX12_far 5 = .ok (.ifCond .eq 11, 3) := by decide +kernel
theorem dX12_far_8 : decode cX12_far 8 = .ok (.iload_n 2, 1) := by decide +kernel
theorem dX12_far_9 : decode cX12_far 9 = .ok (.iload_n 3, 1) := by decide +kernel
theorem dX12_far_10 : decode cX12_far 10 = .ok (.invokestatic 145, 3) := by decide +kernel
theorem dX12_far_13 : decode cX12_far 13 = .ok (.ifCond .ne 6, 3) := by decide +kernel
theorem dX12_far_16 : decode cX12_far 16 = .ok (.bipush (-2), 2) := by decide +kernel
theorem dX12_far_18 : decode cX12_far 18 = .ok (.ireturn, 1) := by decide +kernel
theorem dX12_far_19 : decode cX12_far 19 = .ok (.aload_n 0, 1) := by decide +kernel
theorem dX12_far_20 : decode cX12_far 20 = .ok (.iload_n 1, 1) := by decide +kernel
theorem dX12_far_21 : decode cX12_far 21 = .ok (.iconst 0, 1) := by decide +kernel
theorem dX12_far_22 : decode cX12_far 22 = .ok (.invokevirtual 122, 3) := by decide +kernel
theorem dX12_far_25 : decode cX12_far 25 = .ok (.istore 4, 2) := by decide +kernel
theorem dX12_far_27 : decode cX12_far 27 = .ok (.aload_n 0, 1) := by decide +kernel
theorem dX12_far_28 : decode cX12_far 28 = .ok (.iload 4, 2) := by decide +kernel
theorem dX12_far_30 : decode cX12_far 30 = .ok (.iconst (-1), 1) := by decide +kernel
theorem dX12_far_31 : decode cX12_far 31 = .ok (.invokevirtual 132, 3) := by decide +kernel
theorem dX12_far_34 : decode cX12_far 34 = .ok (.aload_n 0, 1) := by decide +kernel
theorem dX12_far_35 : decode cX12_far 35 = .ok (.iload_n 1, 1) := by decide +kernel
theorem dX12_far_36 : decode cX12_far 36 = .ok (.iconst 5, 1) := by decide +kernel
theorem dX12_far_37 : decode cX12_far 37 = .ok (.invokevirtual 122, 3) := by decide +kernel
theorem dX12_far_40 : decode cX12_far 40 = .ok (.iconst 1, 1) := by decide +kernel
theorem dX12_far_41 : decode cX12_far 41 = .ok (.if_icmp .eq 12, 3) := by decide +kernel
theorem dX12_far_44 : decode cX12_far 44 = .ok (.aload_n 0, 1) := by decide +kernel
theorem dX12_far_45 : decode cX12_far 45 = .ok (.iload_n 2, 1) := by decide +kernel
theorem dX12_far_46 : decode cX12_far 46 = .ok (.iload_n 3, 1) := by decide +kernel
theorem dX12_far_47 : decode cX12_far 47 = .ok (.invokevirtual 148, 3) := by decide +kernel
theorem dX12_far_50 : decode cX12_far 50 = .ok (.ifCond .ne 6, 3) := by decide +kernel
theorem dX12_far_53 : decode cX12_far 53 = .ok (.bipush (-3), 2) := by decide +kernel
theorem dX12_far_55 : decode cX12_far 55 = .ok (.ireturn, 1) := by decide +kernel
theorem dX12_far_56 : decode cX12_far 56 = .ok (.aload_n 0, 1) := by decide +kernel
theorem dX12_far_57 : decode cX12_far 57 = .ok (.iload 4, 2) := by decide +kernel
theorem dX12_far_59 : decode cX12_far 59 = .ok (.iload_n 1, 1) := by decide +kernel
theorem dX12_far_60 : decode cX12_far 60 = .ok (.invokevirtual 132, 3) := by decide +kernel
theorem dX12_far_63 : decode cX12_far 63 = .ok (.aload_n 0, 1) := by decide +kernel
theorem dX12_far_64 : decode cX12_far 64 = .ok (.iload_n 2, 1) := by decide +kernel
theorem dX12_far_65 : decode cX12_far 65 = .ok (.iload_n 3, 1) := by decide +kernel
theorem dX12_far_66 : decode cX12_far 66 = .ok (.invokevirtual 172, 3) := by decide +kernel
theorem dX12_far_69 : decode cX12_far 69 = .ok (.ifCond .ne 6, 3) := by decide +kernel
theorem dX12_far_72 : decode cX12_far 72 = .ok (.bipush (-3), 2) := by decide +kernel
theorem dX12_far_74 : decode cX12_far 74 = .ok (.ireturn, 1) := by decide +kernel
theorem dX12_far_75 : decode cX12_far 75 = .ok (.aload_n 0, 1) := by decide +kernel
theorem dX12_far_76 : decode cX12_far 76 = .ok (.getfield 125, 3) := by decide +kernel
theorem dX12_far_79 : decode cX12_far 79 = .ok (.ifCond .ne 5, 3) := by decide +kernel
theorem dX12_far_82 : decode cX12_far 82 = .ok (.iconst 0, 1) := by decide +kernel
theorem dX12_far_83 : decode cX12_far 83 = .ok (.ireturn, 1) := by decide +kernel
theorem dX12_far_84 : decode cX12_far 84 = .ok (.aload_n 0, 1) := by decide +kernel
theorem dX12_far_85 : decode cX12_far 85 = .ok (.iload_n 2, 1) := by decide +kernel
theorem dX12_far_86 : decode cX12_far 86 = .ok (.iload_n 3, 1) := by decide +kernel
theorem dX12_far_87 : decode cX12_far 87 = .ok (.invokevirtual 175, 3) := by decide +kernel
theorem dX12_far_90 : decode cX12_far 90 = .ok (.aload_n 0, 1) := by decide +kernel
theorem dX12_far_91 : decode cX12_far 91 = .ok (.bipush 99, 2) := by decide +kernel
theorem dX12_far_93 : decode cX12_far 93 = .ok (.bipush 100, 2) := by decide +kernel
theorem dX12_far_95 : decode cX12_far 95 = .ok (.invokevirtual 199, 3) := by decide +kernel
theorem dX12_far_98 : decode cX12_far 98 = .ok (.aload_n 0, 1) := by decide +kernel
theorem dX12_far_99 : decode cX12_far 99 = .ok (.iload_n 1, 1) := by decide +kernel
theorem dX12_far_100 : decode cX12_far 100 = .ok (.iconst 1, 1) := by decide +kernel
theorem dX12_far_101 : decode cX12_far 101 = .ok (.invokevirtual 122, 3) := by decide +kernel
theorem dX12_far_104 : decode cX12_far 104 = .ok (.iload_n 2, 1) := by decide +kernel
theorem dX12_far_105 : decode cX12_far 105 = .ok (.isub, 1) := by decide +kernel
theorem dX12_far_106 : decode cX12_far 106 = .ok (.iload_n 3, 1) := by decide +kernel
theorem dX12_far_107 : decode cX12_far 107 = .ok (.idiv, 1) := by decide +kernel
theorem dX12_far_108 : decode cX12_far 108 = .ok (.iconst 1, 1) := by decide +kernel
theorem dX12_far_109 : decode cX12_far 109 = .ok (.iadd, 1) := by decide +kernel
theorem dX12_far_110 : decode cX12_far 110 = .ok (.aload_n 0, 1) := by decide +kernel
theorem dX12_far_111 : decode cX12_far 111 = .ok (.getfield 193, 3) := by decide +kernel
theorem dX12_far_114 : decode cX12_far 114 = .ok (.if_icmp .le 7, 3) := by decide +kernel
theorem dX12_far_117 : decode cX12_far 117 = .ok (.iconst 1, 1) := by decide +kernel
theorem dX12_far_118 : decode cX12_far 118 = .ok (.goto 4, 3) := by decide +kernel
theorem dX12_far_121 : decode cX12_far 121 = .ok (.iconst 0, 1) := by decide +kernel
theorem dX12_far_122 : decode cX12_far 122 = .ok (.ireturn, 1) := by decide +kernel
theorem dX12_mouldsOf_0 : decode cX12_mouldsOf 0 = .ok (.iconst 0, 1) := by decide +kernel
theorem dX12_mouldsOf_1 : decode cX12_mouldsOf 1 = .ok (.istore_n 3, 1) := by decide +kernel
theorem dX12_mouldsOf_2 : decode cX12_mouldsOf 2 = .ok (.iconst 0, 1) := by decide +kernel
theorem dX12_mouldsOf_3 : decode cX12_mouldsOf 3 = .ok (.istore 4, 2) := by decide +kernel
theorem dX12_mouldsOf_5 : decode cX12_mouldsOf 5 = .ok (.iconst 0, 1) := by decide +kernel
theorem dX12_mouldsOf_6 : decode cX12_mouldsOf 6 = .ok (.istore 5, 2) := by decide +kernel
theorem dX12_mouldsOf_8 : decode cX12_mouldsOf 8 = .ok (.iconst 0, 1) := by decide +kernel
theorem dX12_mouldsOf_9 : decode cX12_mouldsOf 9 = .ok (.istore 6, 2) := by decide +kernel
theorem dX12_mouldsOf_11 : decode cX12_mouldsOf 11 = .ok (.iload 6, 2) := by decide +kernel
theorem dX12_mouldsOf_13 : decode cX12_mouldsOf 13 = .ok (.aload_n 0, 1) := by decide +kernel
theorem dX12_mouldsOf_14 : decode cX12_mouldsOf 14 = .ok (.getfield 116, 3) := by decide +kernel
theorem dX12_mouldsOf_17 : decode cX12_mouldsOf 17 = .ok (.if_icmp .ge 69, 3) := by decide +kernel
theorem dX12_mouldsOf_20 : decode cX12_mouldsOf 20 = .ok (.aload_n 0, 1) := by decide +kernel
theorem dX12_mouldsOf_21 : decode cX12_mouldsOf 21 = .ok (.iload 6, 2) := by decide +kernel
theorem dX12_mouldsOf_23 : decode cX12_mouldsOf 23 = .ok (.iload_n 1, 1) := by decide +kernel
theorem dX12_mouldsOf_24 : decode cX12_mouldsOf 24 = .ok (.invokevirtual 128, 3) := by decide +kernel
theorem dX12_mouldsOf_27 : decode cX12_mouldsOf 27 = .ok (.ifCond .eq 53, 3) := by decide +kernel
theorem dX12_mouldsOf_30 : decode cX12_mouldsOf 30 = .ok (.aload_n 0, 1) := by decide +kernel
theorem dX12_mouldsOf_31 : decode cX12_mouldsOf 31 = .ok (.iload 6, 2) := by decide +kernel
theorem dX12_mouldsOf_33 : decode cX12_mouldsOf 33 = .ok (.iconst 3, 1) := by decide +kernel
theorem dX12_mouldsOf_34 : decode cX12_mouldsOf 34 = .ok (.invokevirtual 122, 3) := by decide +kernel
theorem dX12_mouldsOf_37 : decode cX12_mouldsOf 37 = .ok (.iconst (-1), 1) := by decide +kernel
theorem dX12_mouldsOf_38 : decode cX12_mouldsOf 38 = .ok (.if_icmp .eq 42, 3) := by decide +kernel
theorem dX12_mouldsOf_41 : decode cX12_mouldsOf 41 = .ok (.iinc 4 1, 3) := by decide +kernel
theorem dX12_mouldsOf_44 : decode cX12_mouldsOf 44 = .ok (.iload 5, 2) := by decide +kernel
theorem dX12_mouldsOf_46 : decode cX12_mouldsOf 46 = .ok (.iload_n 3, 1) := by decide +kernel
theorem dX12_mouldsOf_47 : decode cX12_mouldsOf 47 = .ok (.aload_n 0, 1) := by decide +kernel
theorem dX12_mouldsOf_48 : decode cX12_mouldsOf 48 = .ok (.iload 6, 2) := by decide +kernel
theorem dX12_mouldsOf_50 : decode cX12_mouldsOf 50 = .ok (.iconst 3, 1) := by decide +kernel
theorem dX12_mouldsOf_51 : decode cX12_mouldsOf 51 = .ok (.invokevirtual 122, 3) := by decide +kernel
theorem dX12_mouldsOf_54 : decode cX12_mouldsOf 54 = .ok (.ishr, 1) := by decide +kernel
theorem dX12_mouldsOf_55 : decode cX12_mouldsOf 55 = .ok (.iconst 1, 1) := by decide +kernel
theorem dX12_mouldsOf_56 : decode cX12_mouldsOf 56 = .ok (.iand, 1) := by decide +kernel
theorem dX12_mouldsOf_57 : decode cX12_mouldsOf 57 = .ok (.ifCond .ne 7, 3) := by decide +kernel
