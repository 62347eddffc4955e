theorem dX4_form_98 : decode cX4_form 98 = .ok (.aaload, 1) := by decide +kernel
theorem dX4_form_99 : decode cX4_form 99 = .ok (.aload_n 0, 1) := by decide +kernel
theorem dX4_form_100 : decode cX4_form 100 = .ok (.getfield 20, 3) := by decide +kernel
theorem dX4_form_103 : decode cX4_form 103 = .ok (.iload_n 2, 1) := by decide +kernel
theorem dX4_form_104 : decode cX4_form 104 = .ok (.invokevirtual 56, 3) := by decide +kernel
theorem dX4_form_107 : decode cX4_form 107 = .ok (.iload_n 2, 1) := by decide +kernel
theorem dX4_form_108 : decode cX4_form 108 = .ok (.ireturn, 1) := by decide +kernel
theorem dX4_at_0 : decode cX4_at 0 = .ok (.iload_n 1, 1) := by decide +kernel
theorem dX4_at_1 : decode cX4_at 1 = .ok (.invokestatic 53, 3) := by decide +kernel
theorem dX4_at_4 : decode cX4_at 4 = .ok (.ifCond .eq 20, 3) := by decide +kernel
theorem dX4_at_7 : decode cX4_at 7 = .ok (.iload_n 2, 1) := by decide +kernel
theorem dX4_at_8 : decode cX4_at 8 = .ok (.ifCond .lt 16, 3) := by decide +kernel
theorem dX4_at_11 : decode cX4_at 11 = .ok (.iload_n 2, 1) := by decide +kernel
theorem dX4_at_12 : decode cX4_at 12 = .ok (.aload_n 0, 1) := by decide +kernel
theorem dX4_at_13 : decode cX4_at 13 = .ok (.getfield 11, 3) := by decide +kernel
theorem dX4_at_16 : decode cX4_at 16 = .ok (.iload_n 1, 1) := by decide +kernel
theorem dX4_at_17 : decode cX4_at 17 = .ok (.aaload, 1) := by decide +kernel
theorem dX4_at_18 : decode cX4_at 18 = .ok (.getfield 60, 3) := by decide +kernel
theorem dX4_at_21 : decode cX4_at 21 = .ok (.if_icmp .lt 5, 3) := by decide +kernel
theorem dX4_at_24 : decode cX4_at 24 = .ok (.iconst 0, 1) := by decide +kernel
theorem dX4_at_25 : decode cX4_at 25 = .ok (.ireturn, 1) := by decide +kernel
theorem dX4_at_26 : decode cX4_at 26 = .ok (.aload_n 0, 1) := by decide +kernel
theorem dX4_at_27 : decode cX4_at 27 = .ok (.getfield 11, 3) := by decide +kernel
theorem dX4_at_30 : decode cX4_at 30 = .ok (.iload_n 1, 1) := by decide +kernel
theorem dX4_at_31 : decode cX4_at 31 = .ok (.aaload, 1) := by decide +kernel
theorem dX4_at_32 : decode cX4_at 32 = .ok (.getfield 64, 3) := by decide +kernel
theorem dX4_at_35 : decode cX4_at 35 = .ok (.iload_n 2, 1) := by decide +kernel
theorem dX4_at_36 : decode cX4_at 36 = .ok (.iaload, 1) := by decide +kernel
theorem dX4_at_37 : decode cX4_at 37 = .ok (.ireturn, 1) := by decide +kernel
theorem dX4_whole_0 : decode cX4_whole 0 = .ok (.iload_n 1, 1) := by decide +kernel
theorem dX4_whole_1 : decode cX4_whole 1 = .ok (.invokestatic 53, 3) := by decide +kernel
theorem dX4_whole_4 : decode cX4_whole 4 = .ok (.ifCond .eq 12, 3) := by decide +kernel
theorem dX4_whole_7 : decode cX4_whole 7 = .ok (.iload_n 2, 1) := by decide +kernel
theorem dX4_whole_8 : decode cX4_whole 8 = .ok (.ifCond .lt 8, 3) := by decide +kernel
theorem dX4_whole_11 : decode cX4_whole 11 = .ok (.iload_n 2, 1) := by decide +kernel
theorem dX4_whole_12 : decode cX4_whole 12 = .ok (.iconst 1, 1) := by decide +kernel
theorem dX4_whole_13 : decode cX4_whole 13 = .ok (.if_icmp .le 5, 3) := by decide +kernel
theorem dX4_whole_16 : decode cX4_whole 16 = .ok (.lconst 0, 1) := by decide +kernel
theorem dX4_whole_17 : decode cX4_whole 17 = .ok (.lreturn, 1) := by decide +kernel
theorem dX4_whole_18 : decode cX4_whole 18 = .ok (.iload_n 2, 1) := by decide +kernel
theorem dX4_whole_19 : decode cX4_whole 19 = .ok (.ifCond .ne 15, 3) := by decide +kernel
theorem dX4_whole_22 : decode cX4_whole 22 = .ok (.aload_n 0, 1) := by decide +kernel
theorem dX4_whole_23 : decode cX4_whole 23 = .ok (.getfield 11, 3) := by decide +kernel
theorem dX4_whole_26 : decode cX4_whole 26 = .ok (.iload_n 1, 1) := by decide +kernel
theorem dX4_whole_27 : decode cX4_whole 27 = .ok (.aaload, 1) := by decide +kernel
theorem dX4_whole_28 : decode cX4_whole 28 = .ok (.invokevirtual 67, 3) := by decide +kernel
theorem dX4_whole_31 : decode cX4_whole 31 = .ok (.goto 12, 3) := by decide +kernel
theorem dX4_whole_34 : decode cX4_whole 34 = .ok (.aload_n 0, 1) := by decide +kernel
theorem dX4_whole_35 : decode cX4_whole 35 = .ok (.getfield 11, 3) := by decide +kernel
theorem dX4_whole_38 : decode cX4_whole 38 = .ok (.iload_n 1, 1) := by decide +kernel
theorem dX4_whole_39 : decode cX4_whole 39 = .ok (.aaload, 1) := by decide +kernel
theorem dX4_whole_40 : decode cX4_whole 40 = .ok (.invokevirtual 71, 3) := by decide +kernel
theorem dX4_whole_43 : decode cX4_whole 43 = .ok (.lreturn, 1) := by decide +kernel
theorem dX4_hold_0 : decode cX4_hold 0 = .ok (.iload_n 1, 1) := by decide +kernel
theorem dX4_hold_1 : decode cX4_hold 1 = .ok (.invokestatic 53, 3) := by decide +kernel
theorem dX4_hold_4 : decode cX4_hold 4 = .ok (.ifCond .eq 10, 3) := by decide +kernel
theorem dX4_hold_7 : decode cX4_hold 7 = .ok (.iload_n 2, 1) := by decide +kernel
theorem dX4_hold_8 : decode cX4_hold 8 = .ok (.invokestatic 40, 3) := by decide +kernel
theorem dX4_hold_11 : decode cX4_hold 11 = .ok (.ifCond .ne 6, 3) := by decide +kernel
theorem dX4_hold_14 : decode cX4_hold 14 = .ok (.bipush (-3), 2) := by decide +kernel
theorem dX4_hold_16 : decode cX4_hold 16 = .ok (.ireturn, 1) := by decide +kernel
theorem dX4_hold_17 : decode cX4_hold 17 = .ok (.aload_n 0, 1) := by decide +kernel
theorem dX4_hold_18 : decode cX4_hold 18 = .ok (.getfield 11, 3) := by decide +kernel
theorem dX4_hold_21 : decode cX4_hold 21 = .ok (.iload_n 1, 1) := by decide +kernel
theorem dX4_hold_22 : decode cX4_hold 22 = .ok (.aaload, 1) := by decide +kernel
theorem dX4_hold_23 : decode cX4_hold 23 = .ok (.iload_n 2, 1) := by decide +kernel
theorem dX4_hold_24 : decode cX4_hold 24 = .ok (.invokevirtual 74, 3) := by decide +kernel
theorem dX4_hold_27 : decode cX4_hold 27 = .ok (.ireturn, 1) := by decide +kernel
theorem dX4_goes_0 : decode cX4_goes 0 = .ok (.iload_n 1, 1) := by decide +kernel
theorem dX4_goes_1 : decode cX4_goes 1 = .ok (.invokestatic 53, 3) := by decide +kernel
theorem dX4_goes_4 : decode cX4_goes 4 = .ok (.ifCond .eq 10, 3) := by decide +kernel
theorem dX4_goes_7 : decode cX4_goes 7 = .ok (.iload_n 2, 1) := by decide +kernel
theorem dX4_goes_8 : decode cX4_goes 8 = .ok (.invokestatic 40, 3) := by decide +kernel
theorem dX4_goes_11 : decode cX4_goes 11 = .ok (.ifCond .ne 6, 3) := by decide +kernel
theorem dX4_goes_14 : decode cX4_goes 14 = .ok (.bipush (-3), 2) := by decide +kernel
theorem dX4_goes_16 : decode cX4_goes 16 = .ok (.ireturn, 1) := by decide +kernel
theorem dX4_goes_17 : decode cX4_goes 17 = .ok (.aload_n 0, 1) := by decide +kernel
theorem dX4_goes_18 : decode cX4_goes 18 = .ok (.getfield 11, 3) := by decide +kernel
theorem dX4_goes_21 : decode cX4_goes 21 = .ok (.iload_n 1, 1) := by decide +kernel
theorem dX4_goes_22 : decode cX4_goes 22 = .ok (.aaload, 1) := by decide +kernel
theorem dX4_goes_23 : decode cX4_goes 23 = .ok (.iload_n 2, 1) := by decide +kernel
theorem dX4_goes_24 : decode cX4_goes 24 = .ok (.invokevirtual 78, 3) := by decide +kernel
theorem dX4_goes_27 : decode cX4_goes 27 = .ok (.ifCond .eq 7, 3) := by decide +kernel
theorem dX4_goes_30 : decode cX4_goes 30 = .ok (.iconst 1, 1) := by decide +kernel
theorem dX4_goes_31 : decode cX4_goes 31 = .ok (.goto 4, 3) := by decide +kernel
theorem dX4_goes_34 : decode cX4_goes 34 = .ok (.iconst 0, 1) := by decide +kernel
theorem dX4_goes_35 : decode cX4_goes 35 = .ok (.ireturn, 1) := by decide +kernel
theorem dX4_nought_0 : decode cX4_nought 0 = .ok (.iload_n 1, 1) := by decide +kernel
theorem dX4_nought_1 : decode cX4_nought 1 = .ok (.invokestatic 53, 3) := by decide +kernel
theorem dX4_nought_4 : decode cX4_nought 4 = .ok (.ifCond .ne 6, 3) := by decide +kernel
theorem dX4_nought_7 : decode cX4_nought 7 = .ok (.bipush (-3), 2) := by decide +kernel
theorem dX4_nought_9 : decode cX4_nought 9 = .ok (.ireturn, 1) := by decide +kernel
theorem dX4_nought_10 : decode cX4_nought 10 = .ok (.aload_n 0, 1) := by decide +kernel
theorem dX4_nought_11 : decode cX4_nought 11 = .ok (.getfield 11, 3) := by decide +kernel
theorem dX4_nought_14 : decode cX4_nought 14 = .ok (.iload_n 1, 1) := by decide +kernel
theorem dX4_nought_15 : decode cX4_nought 15 = .ok (.aaload, 1) := by decide +kernel
theorem dX4_nought_16 : decode cX4_nought 16 = .ok (.invokevirtual 81, 3) := by decide +kernel
theorem dX4_nought_19 : decode cX4_nought 19 = .ok (.ifCond .ne 7, 3) := by decide +kernel
theorem dX4_nought_22 : decode cX4_nought 22 = .ok (.iconst 1, 1) := by decide +kernel
theorem dX4_nought_23 : decode cX4_nought 23 = .ok (.goto 4, 3) := by decide +kernel
theorem dX4_nought_26 : decode cX4_nought 26 = .ok (.iconst 0, 1) := by decide +kernel
theorem dX4_nought_27 : decode cX4_nought 27 = .ok (.ireturn, 1) := by decide +kernel
theorem dX4_bars_0 : decode cX4_bars 0 = .ok (.iload_n 1, 1) := by decide +kernel
theorem dX4_bars_1 : decode cX4_bars 1 = .ok (.invokestatic 53, 3) := by decide +kernel
theorem dX4_bars_4 : decode cX4_bars 4 = .ok (.ifCond .ne 6, 3) := by decide +kernel
theorem dX4_bars_7 : decode cX4_bars 7 = .ok (.bipush (-3), 2) := by decide +kernel
theorem dX4_bars_9 : decode cX4_bars 9 = .ok (.ireturn, 1) := by decide +kernel
theorem dX4_bars_10 : decode cX4_bars 10 = .ok (.aload_n 0, 1) := by decide +kernel
theorem dX4_bars_11 : decode cX4_bars 11 = .ok (.getfield 11, 3) := by decide +kernel
theorem dX4_bars_14 : decode cX4_bars 14 = .ok (.iload_n 1, 1) := by decide +kernel
theorem dX4_bars_15 : decode cX4_bars 15 = .ok (.aaload, 1) := by decide +kernel
theorem dX4_bars_16 : decode cX4_bars 16 = .ok (.invokevirtual 81, 3) := by decide +kernel
theorem dX4_bars_19 : decode cX4_bars 19 = .ok (.ireturn, 1) := by decide +kernel
theorem dX4_bar_0 : decode cX4_bar 0 = .ok (.iload_n 1, 1) := by decide +kernel
theorem dX4_bar_1 : decode cX4_bar 1 = .ok (.invokestatic 53, 3) := by decide +kernel
theorem dX4_bar_4 : decode cX4_bar 4 = .ok (.ifCond .eq 7, 3) := by decide +kernel
theorem dX4_bar_7 : decode cX4_bar 7 = .ok (.iload_n 2, 1) := by decide +kernel
theorem dX4_bar_8 : decode cX4_bar 8 = .ok (.ifCond .ge 6, 3) := by decide +kernel
theorem dX4_bar_11 : decode cX4_bar 11 = .ok (.bipush (-3), 2) := by decide +kernel
theorem dX4_bar_13 : decode cX4_bar 13 = .ok (.ireturn, 1) := by decide +kernel
theorem dX4_bar_14 : decode cX4_bar 14 = .ok (.aload_n 0, 1) := by decide +kernel
theorem dX4_bar_15 : decode cX4_bar 15 = .ok (.getfield 11, 3) := by decide +kernel
theorem dX4_bar_18 : decode cX4_bar 18 = .ok (.iload_n 1, 1) := by decide +kernel
theorem dX4_bar_19 : decode cX4_bar 19 = .ok (.aaload, 1) := by decide +kernel
theorem dX4_bar_20 : decode cX4_bar 20 = .ok (.iload_n 2, 1) := by decide +kernel
theorem dX4_bar_21 : decode cX4_bar 21 = .ok (.invokevirtual 85, 3) := by decide +kernel
theorem dX4_bar_24 : decode cX4_bar 24 = .ok (.istore_n 3, 1) := by decide +kernel
theorem dX4_bar_25 : decode cX4_bar 25 = .ok (.iload_n 3, 1) := by decide +kernel
theorem dX4_bar_26 : decode cX4_bar 26 = .ok (.ifCond .ge 8, 3) := by decide +kernel
theorem dX4_bar_29 : decode cX4_bar 29 = .ok (.bipush (-3), 2) := by decide +kernel
theorem dX4_bar_31 : decode cX4_bar 31 = .ok (.goto 4, 3) := by decide +kernel
theorem dX4_bar_34 : decode cX4_bar 34 = .ok (.iload_n 3, 1) := by decide +kernel
theorem dX4_bar_35 : decode cX4_bar 35 = .ok (.ireturn, 1) := by decide +kernel
theorem dX4_takes_0 : decode cX4_takes 0 = .ok (.iload_n 1, 1) := by decide +kernel
theorem dX4_takes_1 : decode cX4_takes 1 = .ok (.invokestatic 53, 3) := by decide +kernel
theorem dX4_takes_4 : decode cX4_takes 4 = .ok (.ifCond .eq 13, 3) := by decide +kernel
theorem dX4_takes_7 : decode cX4_takes 7 = .ok (.iload_n 2, 1) := by decide +kernel
theorem dX4_takes_8 : decode cX4_takes 8 = .ok (.sipush 400, 3) := by decide +kernel
theorem dX4_takes_11 : decode cX4_takes 11 = .ok (.invokestatic 36, 3) := by decide +kernel
theorem dX4_takes_14 : decode cX4_takes 14 = .ok (.ifCond .ne 6, 3) := by decide +kernel
theorem dX4_takes_17 : decode cX4_takes 17 = .ok (.bipush (-3), 2) := by decide +kernel
theorem dX4_takes_19 : decode cX4_takes 19 = .ok (.ireturn, 1) := by decide +kernel
theorem dX4_takes_20 : decode cX4_takes 20 = .ok (.aload_n 0, 1) := by decide +kernel
theorem dX4_takes_21 : decode cX4_takes 21 = .ok (.getfield 11, 3) := by decide +kernel
theorem dX4_takes_24 : decode cX4_takes 24 = .ok (.iload_n 1, 1) := by decide +kernel
theorem dX4_takes_25 : decode cX4_takes 25 = .ok (.aaload, 1) := by decide +kernel
theorem dX4_takes_26 : decode cX4_takes 26 = .ok (.astore_n 3, 1) := by decide +kernel
theorem dX4_takes_27 : decode cX4_takes 27 = .ok (.aload_n 0, 1) := by decide +kernel
theorem dX4_takes_28 : decode cX4_takes 28 = .ok (.getfield 16, 3) := by decide +kernel
theorem dX4_takes_31 : decode cX4_takes 31 = .ok (.aload_n 3, 1) := by decide +kernel
theorem dX4_takes_32 : decode cX4_takes 32 = .ok (.getfield 64, 3) := by decide +kernel
theorem dX4_takes_35 : decode cX4_takes 35 = .ok (.aload_n 3, 1) := by decide +kernel
theorem dX4_takes_36 : decode cX4_takes 36 = .ok (.getfield 60, 3) := by decide +kernel
theorem dX4_takes_39 : decode cX4_takes 39 = .ok (.invokevirtual 56, 3) := by decide +kernel
theorem dX4_takes_42 : decode cX4_takes 42 = .ok (.aload_n 0, 1) := by decide +kernel
theorem dX4_takes_43 : decode cX4_takes 43 = .ok (.getfield 16, 3) := by decide +kernel
theorem dX4_takes_46 : decode cX4_takes 46 = .ok (.iload_n 2, 1) := by decide +kernel
theorem dX4_takes_47 : decode cX4_takes 47 = .ok (.ineg, 1) := by decide +kernel
theorem dX4_takes_48 : decode cX4_takes 48 = .ok (.invokevirtual 88, 3) := by decide +kernel
theorem dX4_takes_51 : decode cX4_takes 51 = .ok (.aload_n 0, 1) := by decide +kernel
theorem dX4_takes_52 : decode cX4_takes 52 = .ok (.getfield 16, 3) := by decide +kernel
theorem dX4_takes_55 : decode cX4_takes 55 = .ok (.invokevirtual 81, 3) := by decide +kernel
theorem dX4_takes_58 : decode cX4_takes 58 = .ok (.ifCond .ne 7, 3) := by decide +kernel
theorem dX4_takes_61 : decode cX4_takes 61 = .ok (.iconst 1, 1) := by decide +kernel
theorem dX4_takes_62 : decode cX4_takes 62 = .ok (.goto 4, 3) := by decide +kernel
theorem dX4_takes_65 : decode cX4_takes 65 = .ok (.iconst 0, 1) := by decide +kernel
theorem dX4_takes_66 : decode cX4_takes 66 = .ok (.ireturn, 1) := by decide +kernel
theorem dX4_alike_0 : decode cX4_alike 0 = .ok (.iload_n 1, 1) := by decide +kernel
theorem dX4_alike_1 : decode cX4_alike 1 = .ok (.invokestatic 53, 3) := by decide +kernel
theorem dX4_alike_4 : decode cX4_alike 4 = .ok (.ifCond .eq 10, 3) := by decide +kernel
theorem dX4_alike_7 : decode cX4_alike 7 = .ok (.iload_n 2, 1) := by decide +kernel
theorem dX4_alike_8 : decode cX4_alike 8 = .ok (.invokestatic 53, 3) := by decide +kernel
theorem dX4_alike_11 : decode cX4_alike 11 = .ok (.ifCond .ne 6, 3) := by decide +kernel
theorem dX4_alike_14 : decode cX4_alike 14 = .ok (.bipush (-3), 2) := by decide +kernel
theorem dX4_alike_16 : decode cX4_alike 16 = .ok (.ireturn, 1) := by decide +kernel
theorem dX4_alike_17 : decode cX4_alike 17 = .ok (.aload_n 0, 1) := by decide +kernel
theorem dX4_alike_18 : decode cX4_alike 18 = .ok (.getfield 11, 3) := by decide +kernel
theorem dX4_alike_21 : decode cX4_alike 21 = .ok (.iload_n 1, 1) := by decide +kernel
theorem dX4_alike_22 : decode cX4_alike 22 = .ok (.aaload, 1) := by decide +kernel
theorem dX4_alike_23 : decode cX4_alike 23 = .ok (.aload_n 0, 1) := by decide +kernel
theorem dX4_alike_24 : decode cX4_alike 24 = .ok (.getfield 11, 3) := by decide +kernel
theorem dX4_alike_27 : decode cX4_alike 27 = .ok (.iload_n 2, 1) := by decide +kernel
theorem dX4_alike_28 : decode cX4_alike 28 = .ok (.aaload, 1) := by decide +kernel
theorem dX4_alike_29 : decode cX4_alike 29 = .ok (.invokevirtual 92, 3) := by decide +kernel
theorem dX4_alike_32 : decode cX4_alike 32 = .ok (.ifCond .eq 7, 3) := by decide +kernel
theorem dX4_alike_35 : decode cX4_alike 35 = .ok (.iconst 1, 1) := by decide +kernel
theorem dX4_alike_36 : decode cX4_alike 36 = .ok (.goto 4, 3) := by decide +kernel
theorem dX4_alike_39 : decode cX4_alike 39 = .ok (.iconst 0, 1) := by decide +kernel
theorem dX4_alike_40 : decode cX4_alike 40 = .ok (.ireturn, 1) := by decide +kernel
theorem dX4_worth_0 : decode cX4_worth 0 = .ok (.iload_n 1, 1) := by decide +kernel
theorem dX4_worth_1 : decode cX4_worth 1 = .ok (.invokestatic 53, 3) := by decide +kernel
theorem dX4_worth_4 : decode cX4_worth 4 = .ok (.ifCond .eq 29, 3) := by decide +kernel
theorem dX4_worth_7 : decode cX4_worth 7 = .ok (.aload_n 0, 1) := by decide +kernel
theorem dX4_worth_8 : decode cX4_worth 8 = .ok (.getfield 11, 3) := by decide +kernel
theorem dX4_worth_11 : decode cX4_worth 11 = .ok (.iload_n 1, 1) := by decide +kernel
theorem dX4_worth_12 : decode cX4_worth 12 = .ok (.aaload, 1) := by decide +kernel
theorem dX4_worth_13 : decode cX4_worth 13 = .ok (.getfield 60, 3) := by decide +kernel
theorem dX4_worth_16 : decode cX4_worth 16 = .ok (.iconst 3, 1) := by decide +kernel
theorem dX4_worth_17 : decode cX4_worth 17 = .ok (.if_icmp .ne 16, 3) := by decide +kernel
theorem dX4_worth_20 : decode cX4_worth 20 = .ok (.iload_n 2, 1) := by decide +kernel
theorem dX4_worth_21 : decode cX4_worth 21 = .ok (.iload_n 3, 1) := by decide +kernel
theorem dX4_worth_22 : decode cX4_worth 22 = .ok (.iload 4, 2) := by decide +kernel
theorem dX4_worth_24 : decode cX4_worth 24 = .ok (.sipush 1000, 3) := by decide +kernel
theorem dX4_worth_27 : decode cX4_worth 27 = .ok (.invokestatic 96, 3) := by decide +kernel
theorem dX4_worth_30 : decode cX4_worth 30 = .ok (.ifCond .ne 7, 3) := by decide +kernel
theorem dX4_worth_33 : decode cX4_worth 33 = .ok (.ldc2_w 100, 3) := by decide +kernel
theorem dX4_worth_36 : decode cX4_worth 36 = .ok (.lreturn, 1) := by decide +kernel
theorem dX4_worth_37 : decode cX4_worth 37 = .ok (.aload_n 0, 1) := by decide +kernel
theorem dX4_worth_38 : decode cX4_worth 38 = .ok (.getfield 11, 3) := by decide +kernel
theorem dX4_worth_41 : decode cX4_worth 41 = .ok (.iload_n 1, 1) := by decide +kernel
theorem dX4_worth_42 : decode cX4_worth 42 = .ok (.aaload, 1) := by decide +kernel
theorem dX4_worth_43 : decode cX4_worth 43 = .ok (.iload_n 2, 1) := by decide +kernel
theorem dX4_worth_44 : decode cX4_worth 44 = .ok (.iload_n 3, 1) := by decide +kernel
theorem dX4_worth_45 : decode cX4_worth 45 = .ok (.iload 4, 2) := by decide +kernel
theorem dX4_worth_47 : decode cX4_worth 47 = .ok (.iload_n 2, 1) := by decide +kernel
theorem dX4_worth_48 : decode cX4_worth 48 = .ok (.iload_n 3, 1) := by decide +kernel
theorem dX4_worth_49 : decode cX4_worth 49 = .ok (.iload 4, 2) := by decide +kernel
theorem dX4_worth_51 : decode cX4_worth 51 = .ok (.invokevirtual 102, 3) := by decide +kernel
theorem dX4_worth_54 : decode cX4_worth 54 = .ok (.lreturn, 1) := by decide +kernel
theorem dX4_measure_0 : decode cX4_measure 0 = .ok (.iload_n 1, 1) := by decide +kernel
theorem dX4_measure_1 : decode cX4_measure 1 = .ok (.ifCond .lt 20, 3) := by decide +kernel
theorem dX4_measure_4 : decode cX4_measure 4 = .ok (.iload_n 1, 1) := by decide +kernel
theorem dX4_measure_5 : decode cX4_measure 5 = .ok (.iconst 3, 1) := by decide +kernel
theorem dX4_measure_6 : decode cX4_measure 6 = .ok (.if_icmp .ge 15, 3) := by decide +kernel
theorem dX4_measure_9 : decode cX4_measure 9 = .ok (.iload_n 2, 1) := by decide +kernel
theorem dX4_measure_10 : decode cX4_measure 10 = .ok (.iload_n 3, 1) := by decide +kernel
theorem dX4_measure_11 : decode cX4_measure 11 = .ok (.iload 4, 2) := by decide +kernel
theorem dX4_measure_13 : decode cX4_measure 13 = .ok (.bipush 30, 2) := by decide +kernel
theorem dX4_measure_15 : decode cX4_measure 15 = .ok (.invokestatic 96, 3) := by decide +kernel
theorem dX4_measure_18 : decode cX4_measure 18 = .ok (.ifCond .ne 6, 3) := by decide +kernel
theorem dX4_measure_21 : decode cX4_measure 21 = .ok (.bipush (-3), 2) := by decide +kernel
theorem dX4_measure_23 : decode cX4_measure 23 = .ok (.ireturn, 1) := by decide +kernel
theorem dX4_measure_24 : decode cX4_measure 24 = .ok (.aload_n 0, 1) := by decide +kernel
theorem dX4_measure_25 : decode cX4_measure 25 = .ok (.dup, 1) := by decide +kernel
theorem dX4_measure_26 : decode cX4_measure 26 = .ok (.getfield 31, 3) := by decide +kernel
theorem dX4_measure_29 : decode cX4_measure 29 = .ok (.getstatic 106, 3) := by decide +kernel
theorem dX4_measure_32 : decode cX4_measure 32 = .ok (.iload_n 1, 1) := by decide +kernel
theorem dX4_measure_33 : decode cX4_measure 33 = .ok (.iaload, 1) := by decide +kernel
theorem dX4_measure_34 : decode cX4_measure 34 = .ok (.i2l, 1) := by decide +kernel
theorem dX4_measure_35 : decode cX4_measure 35 = .ok (.ladd, 1) := by decide +kernel
theorem dX4_measure_36 : decode cX4_measure 36 = .ok (.putfield 31, 3) := by decide +kernel
theorem dX4_measure_39 : decode cX4_measure 39 = .ok (.iload_n 1, 1) := by decide +kernel
theorem dX4_measure_40 : decode cX4_measure 40 = .ok (.iload_n 2, 1) := by decide +kernel
theorem dX4_measure_41 : decode cX4_measure 41 = .ok (.iload_n 3, 1) := by decide +kernel
theorem dX4_measure_42 : decode cX4_measure 42 = .ok (.iload 4, 2) := by decide +kernel
theorem dX4_measure_44 : decode cX4_measure 44 = .ok (.invokestatic 109, 3) := by decide +kernel
theorem dX4_measure_47 : decode cX4_measure 47 = .ok (.ireturn, 1) := by decide +kernel
theorem dX4_least_0 : decode cX4_least 0 = .ok (.iload_n 1, 1) := by decide +kernel
theorem dX4_least_1 : decode cX4_least 1 = .ok (.invokestatic 53, 3) := by decide +kernel
theorem dX4_least_4 : decode cX4_least 4 = .ok (.ifCond .eq 16, 3) := by decide +kernel
theorem dX4_least_7 : decode cX4_least 7 = .ok (.aload_n 0, 1) := by decide +kernel
theorem dX4_least_8 : decode cX4_least 8 = .ok (.getfield 11, 3) := by decide +kernel
theorem dX4_least_11 : decode cX4_least 11 = .ok (.iload_n 1, 1) := by decide +kernel
theorem dX4_least_12 : decode cX4_least 12 = .ok (.aaload, 1) := by decide +kernel
theorem dX4_least_13 : decode cX4_least 13 = .ok (.getfield 60, 3) := by decide +kernel
theorem dX4_least_16 : decode cX4_least 16 = .ok (.iconst 3, 1) := by decide +kernel
theorem dX4_least_17 : decode cX4_least 17 = .ok (.if_icmp .eq 7, 3) := by decide +kernel
theorem dX4_least_20 : decode cX4_least 20 = .ok (.ldc2_w 100, 3) := by decide +kernel
theorem dX4_least_23 : decode cX4_least 23 = .ok (.lreturn, 1) := by decide +kernel
theorem dX4_least_24 : decode cX4_least 24 = .ok (.iload_n 2, 1) := by decide +kernel
theorem dX4_least_25 : decode cX4_least 25 = .ok (.ifCond .lt 17, 3) := by decide +kernel
theorem dX4_least_28 : decode cX4_least 28 = .ok (.iload_n 2, 1) := by decide +kernel
theorem dX4_least_29 : decode cX4_least 29 = .ok (.iconst 3, 1) := by decide +kernel
theorem dX4_least_30 : decode cX4_least 30 = .ok (.if_icmp .ge 12, 3) := by decide +kernel
theorem dX4_least_33 : decode cX4_least 33 = .ok (.iload_n 3, 1) := by decide +kernel
theorem dX4_least_34 : decode cX4_least 34 = .ok (.ifCond .lt 8, 3) := by decide +kernel
theorem dX4_least_37 : decode cX4_least 37 = .ok (.iload_n 3, 1) := by decide +kernel
theorem dX4_least_38 : decode cX4_least 38 = .ok (.iconst 3, 1) := by decide +kernel
theorem dX4_least_39 : decode cX4_least 39 = .ok (.if_icmp .le 7, 3) := by decide +kernel
theorem dX4_least_42 : decode cX4_least 42 = .ok (.ldc2_w 100, 3) := by decide +kernel
theorem dX4_least_45 : decode cX4_least 45 = .ok (.lreturn, 1) := by decide +kernel
theorem dX4_least_46 : decode cX4_least 46 = .ok (.aload_n 0, 1) := by decide +kernel
theorem dX4_least_47 : decode cX4_least 47 = .ok (.getfield 27, 3) := by decide +kernel
theorem dX4_least_50 : decode cX4_least 50 = .ok (.aload_n 0, 1) := by decide +kernel
theorem dX4_least_51 : decode cX4_least 51 = .ok (.getfield 11, 3) := by decide +kernel
theorem dX4_least_54 : decode cX4_least 54 = .ok (.iload_n 1, 1) := by decide +kernel
theorem dX4_least_55 : decode cX4_least 55 = .ok (.aaload, 1) := by decide +kernel
theorem dX4_least_56 : decode cX4_least 56 = .ok (.iload_n 2, 1) := by decide +kernel
theorem dX4_least_57 : decode cX4_least 57 = .ok (.invokevirtual 115, 3) := by decide +kernel
theorem dX4_least_60 : decode cX4_least 60 = .ok (.aload_n 0, 1) := by decide +kernel
theorem dX4_least_61 : decode cX4_least 61 = .ok (.getfield 27, 3) := by decide +kernel
theorem dX4_least_64 : decode cX4_least 64 = .ok (.getfield 119, 3) := by decide +kernel
theorem dX4_least_67 : decode cX4_least 67 = .ok (.ifCond .ne 7, 3) := by decide +kernel
theorem dX4_least_70 : decode cX4_least 70 = .ok (.ldc2_w 122, 3) := by decide +kernel
theorem dX4_least_73 : decode cX4_least 73 = .ok (.lreturn, 1) := by decide +kernel
theorem dX4_least_74 : decode cX4_least 74 = .ok (.iload_n 3, 1) := by decide +kernel
theorem dX4_least_75 : decode cX4_least 75 = .ok (.iconst 3, 1) := by decide +kernel
theorem dX4_least_76 : decode cX4_least 76 = .ok (.if_icmp .ne 12, 3) := by decide +kernel
theorem dX4_least_79 : decode cX4_least 79 = .ok (.aload_n 0, 1) := by decide +kernel
theorem dX4_least_80 : decode cX4_least 80 = .ok (.getfield 27, 3) := by decide +kernel
theorem dX4_least_83 : decode cX4_least 83 = .ok (.getfield 124, 3) := by decide +kernel
theorem dX4_least_86 : decode cX4_least 86 = .ok (.i2l, 1) := by decide +kernel
theorem dX4_least_87 : decode cX4_least 87 = .ok (.lreturn, 1) := by decide +kernel
theorem dX4_least_88 : decode cX4_least 88 = .ok (.iload_n 3, 1) := by decide +kernel
theorem dX4_least_89 : decode cX4_least 89 = .ok (.aload_n 0, 1) := by decide +kernel
theorem dX4_least_90 : decode cX4_least 90 = .ok (.getfield 27, 3) := by decide +kernel
theorem dX4_least_93 : decode cX4_least 93 = .ok (.getfield 127, 3) := by decide +kernel
theorem dX4_least_96 : decode cX4_least 96 = .ok (.i2l, 1) := by decide +kernel
theorem dX4_least_97 : decode cX4_least 97 = .ok (.aload_n 0, 1) := by decide +kernel
theorem dX4_least_98 : decode cX4_least 98 = .ok (.getfield 27, 3) := by decide +kernel
theorem dX4_least_101 : decode cX4_least 101 = .ok (.getfield 130, 3) := by decide +kernel
theorem dX4_least_104 : decode cX4_least 104 = .ok (.i2l, 1) := by decide +kernel
theorem dX4_least_105 : decode cX4_least 105 = .ok (.aload_n 0, 1) := by decide +kernel
theorem dX4_least_106 : decode cX4_least 106 = .ok (.getfield 27, 3) := by decide +kernel
theorem dX4_least_109 : decode cX4_least 109 = .ok (.getfield 133, 3) := by decide +kernel
theorem dX4_least_112 : decode cX4_least 112 = .ok (.i2l, 1) := by decide +kernel
theorem dX4_least_113 : decode cX4_least 113 = .ok (.invokestatic 136, 3) := by decide +kernel
theorem dX4_least_116 : decode cX4_least 116 = .ok (.lreturn, 1) := by decide +kernel
theorem dX4_many_0 : decode cX4_many 0 = .ok (.iload_n 1, 1) := by decide +kernel
theorem dX4_many_1 : decode cX4_many 1 = .ok (.invokestatic 53, 3) := by decide +kernel
theorem dX4_many_4 : decode cX4_many 4 = .ok (.ifCond .eq 16, 3) := by decide +kernel
theorem dX4_many_7 : decode cX4_many 7 = .ok (.aload_n 0, 1) := by decide +kernel
theorem dX4_many_8 : decode cX4_many 8 = .ok (.getfield 11, 3) := by decide +kernel
theorem dX4_many_11 : decode cX4_many 11 = .ok (.iload_n 1, 1) := by decide +kernel
theorem dX4_many_12 : decode cX4_many 12 = .ok (.aaload, 1) := by decide +kernel
theorem dX4_many_13 : decode cX4_many 13 = .ok (.getfield 60, 3) := by decide +kernel
theorem dX4_many_16 : decode cX4_many 16 = .ok (.iconst 3, 1) := by decide +kernel
theorem dX4_many_17 : decode cX4_many 17 = .ok (.if_icmp .eq 6, 3) := by decide +kernel
theorem dX4_many_20 : decode cX4_many 20 = .ok (.bipush (-3), 2) := by decide +kernel
theorem dX4_many_22 : decode cX4_many 22 = .ok (.ireturn, 1) := by decide +kernel
theorem dX4_many_23 : decode cX4_many 23 = .ok (.aload_n 0, 1) := by decide +kernel
theorem dX4_many_24 : decode cX4_many 24 = .ok (.getfield 27, 3) := by decide +kernel
theorem dX4_many_27 : decode cX4_many 27 = .ok (.aload_n 0, 1) := by decide +kernel
theorem dX4_many_28 : decode cX4_many 28 = .ok (.getfield 11, 3) := by decide +kernel
theorem dX4_many_31 : decode cX4_many 31 = .ok (.iload_n 1, 1) := by decide +kernel
theorem dX4_many_32 : decode cX4_many 32 = .ok (.aaload, 1) := by decide +kernel
theorem dX4_many_33 : decode cX4_many 33 = .ok (.iconst 0, 1) := by decide +kernel
theorem dX4_many_34 : decode cX4_many 34 = .ok (.invokevirtual 115, 3) := by decide +kernel
theorem dX4_many_37 : decode cX4_many 37 = .ok (.aload_n 0, 1) := by decide +kernel
theorem dX4_many_38 : decode cX4_many 38 = .ok (.getfield 27, 3) := by decide +kernel
theorem dX4_many_41 : decode cX4_many 41 = .ok (.getfield 119, 3) := by decide +kernel
theorem dX4_many_44 : decode cX4_many 44 = .ok (.ireturn, 1) := by decide +kernel
theorem dX4_line_0 : decode cX4_line 0 = .ok (.iload_n 1, 1) := by decide +kernel
theorem dX4_line_1 : decode cX4_line 1 = .ok (.invokestatic 53, 3) := by decide +kernel
theorem dX4_line_4 : decode cX4_line 4 = .ok (.ifCond .eq 27, 3) := by decide +kernel
theorem dX4_line_7 : decode cX4_line 7 = .ok (.aload_n 0, 1) := by decide +kernel
theorem dX4_line_8 : decode cX4_line 8 = .ok (.getfield 11, 3) := by decide +kernel
theorem dX4_line_11 : decode cX4_line 11 = .ok (.iload_n 1, 1) := by decide +kernel
theorem dX4_line_12 : decode cX4_line 12 = .ok (.aaload, 1) := by decide +kernel
theorem dX4_line_13 : decode cX4_line 13 = .ok (.getfield 60, 3) := by decide +kernel
theorem dX4_line_16 : decode cX4_line 16 = .ok (.iconst 3, 1) := by decide +kernel
theorem dX4_line_17 : decode cX4_line 17 = .ok (.if_icmp .ne 14, 3) := by decide +kernel
theorem dX4_line_20 : decode cX4_line 20 = .ok (.iload 8, 2) := by decide +kernel
theorem dX4_line_22 : decode cX4_line 22 = .ok (.ifCond .lt 9, 3) := by decide +kernel
theorem dX4_line_25 : decode cX4_line 25 = .ok (.iload 8, 2) := by decide +kernel
theorem dX4_line_27 : decode cX4_line 27 = .ok (.iconst 2, 1) := by decide +kernel
theorem dX4_line_28 : decode cX4_line 28 = .ok (.if_icmp .le 7, 3) := by decide +kernel
theorem dX4_line_31 : decode cX4_line 31 = .ok (.ldc2_w 100, 3) := by decide +kernel
theorem dX4_line_34 : decode cX4_line 34 = .ok (.lreturn, 1) := by decide +kernel
theorem dX4_line_35 : decode cX4_line 35 = .ok (.aload_n 0, 1) := by decide +kernel
theorem dX4_line_36 : decode cX4_line 36 = .ok (.getfield 11, 3) := by decide +kernel
theorem dX4_line_39 : decode cX4_line 39 = .ok (.iload_n 1, 1) := by decide +kernel
theorem dX4_line_40 : decode cX4_line 40 = .ok (.aaload, 1) := by decide +kernel
theorem dX4_line_41 : decode cX4_line 41 = .ok (.astore 9, 2) := by decide +kernel
theorem dX4_line_43 : decode cX4_line 43 = .ok (.iload_n 2, 1) := by decide +kernel
theorem dX4_line_44 : decode cX4_line 44 = .ok (.iload_n 3, 1) := by decide +kernel
theorem dX4_line_45 : decode cX4_line 45 = .ok (.iload 4, 2) := by decide +kernel
theorem dX4_line_47 : decode cX4_line 47 = .ok (.bipush 30, 2) := by decide +kernel
theorem dX4_line_49 : decode cX4_line 49 = .ok (.invokestatic 96, 3) := by decide +kernel
theorem dX4_line_52 : decode cX4_line 52 = .ok (.ifCond .eq 31, 3) := by decide +kernel
theorem dX4_line_55 : decode cX4_line 55 = .ok (.iload_n 2, 1) := by decide +kernel
theorem dX4_line_56 : decode cX4_line 56 = .ok (.iload_n 3, 1) := by decide +kernel
theorem dX4_line_57 : decode cX4_line 57 = .ok (.iload 4, 2) := by decide +kernel
theorem dX4_line_59 : decode cX4_line 59 = .ok (.invokestatic 140, 3) := by decide +kernel
theorem dX4_line_62 : decode cX4_line 62 = .ok (.ifCond .eq 21, 3) := by decide +kernel
theorem dX4_line_65 : decode cX4_line 65 = .ok (.aload 9, 2) := by decide +kernel
theorem dX4_line_67 : decode cX4_line 67 = .ok (.iload_n 2, 1) := by decide +kernel
theorem dX4_line_68 : decode cX4_line 68 = .ok (.iload_n 3, 1) := by decide +kernel
theorem dX4_line_69 : decode cX4_line 69 = .ok (.iload 4, 2) := by decide +kernel
theorem dX4_line_71 : decode cX4_line 71 = .ok (.iload_n 2, 1) := by decide +kernel
theorem dX4_line_72 : decode cX4_line 72 = .ok (.iload_n 3, 1) := by decide +kernel
theorem dX4_line_73 : decode cX4_line 73 = .ok (.iload 4, 2) := by decide +kernel
theorem dX4_line_75 : decode cX4_line 75 = .ok (.invokevirtual 102, 3) := by decide +kernel
theorem dX4_line_78 : decode cX4_line 78 = .ok (.lconst 0, 1) := by decide +kernel
theorem dX4_line_79 : decode cX4_line 79 = .ok (.lcmp, 1) := by decide +kernel
theorem dX4_line_80 : decode cX4_line 80 = .ok (.ifCond .eq 7, 3) := by decide +kernel
theorem dX4_line_83 : decode cX4_line 83 = .ok (.ldc2_w 100, 3) := by decide +kernel
theorem dX4_line_86 : decode cX4_line 86 = .ok (.lreturn, 1) := by decide +kernel
theorem dX4_line_87 : decode cX4_line 87 = .ok (.iload 5, 2) := by decide +kernel
theorem dX4_line_89 : decode cX4_line 89 = .ok (.iload 6, 2) := by decide +kernel
theorem dX4_line_91 : decode cX4_line 91 = .ok (.iload 7, 2) := by decide +kernel
theorem dX4_line_93 : decode cX4_line 93 = .ok (.bipush 30, 2) := by decide +kernel
theorem dX4_line_95 : decode cX4_line 95 = .ok (.invokestatic 96, 3) := by decide +kernel
theorem dX4_line_98 : decode cX4_line 98 = .ok (.ifCond .eq 18, 3) := by decide +kernel
theorem dX4_line_101 : decode cX4_line 101 = .ok (.iload 5, 2) := by decide +kernel
theorem dX4_line_103 : decode cX4_line 103 = .ok (.ifCond .ne 17, 3) := by decide +kernel
theorem dX4_line_106 : decode cX4_line 106 = .ok (.iload 6, 2) := by decide +kernel
theorem dX4_line_108 : decode cX4_line 108 = .ok (.ifCond .ne 12, 3) := by decide +kernel
theorem dX4_line_111 : decode cX4_line 111 = .ok (.iload 7, 2) := by decide +kernel
theorem dX4_line_113 : decode cX4_line 113 = .ok (.ifCond .ne 7, 3) := by decide +kernel
theorem dX4_line_116 : decode cX4_line 116 = .ok (.ldc2_w 100, 3) := by decide +kernel
theorem dX4_line_119 : decode cX4_line 119 = .ok (.lreturn, 1) := by decide +kernel
theorem dX4_line_120 : decode cX4_line 120 = .ok (.aload 9, 2) := by decide +kernel
theorem dX4_line_122 : decode cX4_line 122 = .ok (.iload 5, 2) := by decide +kernel
theorem dX4_line_124 : decode cX4_line 124 = .ok (.iload 6, 2) := by decide +kernel
theorem dX4_line_126 : decode cX4_line 126 = .ok (.iload 7, 2) := by decide +kernel
theorem dX4_line_128 : decode cX4_line 128 = .ok (.iload 5, 2) := by decide +kernel
theorem dX4_line_130 : decode cX4_line 130 = .ok (.iload 6, 2) := by decide +kernel
theorem dX4_line_132 : decode cX4_line 132 = .ok (.iload 7, 2) := by decide +kernel
theorem dX4_line_134 : decode cX4_line 134 = .ok (.invokevirtual 102, 3) := by decide +kernel
theorem dX4_line_137 : decode cX4_line 137 = .ok (.lstore 10, 2) := by decide +kernel
theorem dX4_line_139 : decode cX4_line 139 = .ok (.ldc2_w 144, 3) := by decide +kernel
theorem dX4_line_142 : decode cX4_line 142 = .ok (.aload 9, 2) := by decide +kernel
theorem dX4_line_144 : decode cX4_line 144 = .ok (.iload_n 2, 1) := by decide +kernel
theorem dX4_line_145 : decode cX4_line 145 = .ok (.iload_n 3, 1) := by decide +kernel
theorem dX4_line_146 : decode cX4_line 146 = .ok (.iload 4, 2) := by decide +kernel
theorem dX4_line_148 : decode cX4_line 148 = .ok (.iload 5, 2) := by decide +kernel
theorem dX4_line_150 : decode cX4_line 150 = .ok (.iload 6, 2) := by decide +kernel
theorem dX4_line_152 : decode cX4_line 152 = .ok (.iload 7, 2) := by decide +kernel
theorem dX4_line_154 : decode cX4_line 154 = .ok (.invokevirtual 102, 3) := by decide +kernel
theorem dX4_line_157 : decode cX4_line 157 = .ok (.lmul, 1) := by decide +kernel
theorem dX4_line_158 : decode cX4_line 158 = .ok (.lstore 12, 2) := by decide +kernel
theorem dX4_line_160 : decode cX4_line 160 = .ok (.lload 10, 2) := by decide +kernel
theorem dX4_line_162 : decode cX4_line 162 = .ok (.iload_n 2, 1) := by decide +kernel
theorem dX4_line_163 : decode cX4_line 163 = .ok (.i2l, 1) := by decide +kernel
theorem dX4_line_164 : decode cX4_line 164 = .ok (.lmul, 1) := by decide +kernel
theorem dX4_line_165 : decode cX4_line 165 = .ok (.lload 12, 2) := by decide +kernel
theorem dX4_line_167 : decode cX4_line 167 = .ok (.iload 5, 2) := by decide +kernel
theorem dX4_line_169 : decode cX4_line 169 = .ok (.i2l, 1) := by decide +kernel
theorem dX4_line_170 : decode cX4_line 170 = .ok (.lmul, 1) := by decide +kernel
theorem dX4_line_171 : decode cX4_line 171 = .ok (.lsub, 1) := by decide +kernel
theorem dX4_line_172 : decode cX4_line 172 = .ok (.lstore 14, 2) := by decide +kernel
theorem dX4_line_174 : decode cX4_line 174 = .ok (.lload 10, 2) := by decide +kernel
theorem dX4_line_176 : decode cX4_line 176 = .ok (.iload_n 3, 1) := by decide +kernel
theorem dX4_line_177 : decode cX4_line 177 = .ok (.i2l, 1) := by decide +kernel
theorem dX4_line_178 : decode cX4_line 178 = .ok (.lmul, 1) := by decide +kernel
theorem dX4_line_179 : decode cX4_line 179 = .ok (.lload 12, 2) := by decide +kernel
theorem dX4_line_181 : decode cX4_line 181 = .ok (.iload 6, 2) := by decide +kernel
theorem dX4_line_183 : decode cX4_line 183 = .ok (.i2l, 1) := by decide +kernel
theorem dX4_line_184 : decode cX4_line 184 = .ok (.lmul, 1) := by decide +kernel
theorem dX4_line_185 : decode cX4_line 185 = .ok (.lsub, 1) := by decide +kernel
theorem dX4_line_186 : decode cX4_line 186 = .ok (.lstore 16, 2) := by decide +kernel
theorem dX4_line_188 : decode cX4_line 188 = .ok (.lload 10, 2) := by decide +kernel
theorem dX4_line_190 : decode cX4_line 190 = .ok (.iload 4, 2) := by decide +kernel
theorem dX4_line_192 : decode cX4_line 192 = .ok (.i2l, 1) := by decide +kernel
theorem dX4_line_193 : decode cX4_line 193 = .ok (.lmul, 1) := by decide +kernel
theorem dX4_line_194 : decode cX4_line 194 = .ok (.lload 12, 2) := by decide +kernel
theorem dX4_line_196 : decode cX4_line 196 = .ok (.iload 7, 2) := by decide +kernel
theorem dX4_line_198 : decode cX4_line 198 = .ok (.i2l, 1) := by decide +kernel
theorem dX4_line_199 : decode cX4_line 199 = .ok (.lmul, 1) := by decide +kernel
theorem dX4_line_200 : decode cX4_line 200 = .ok (.lsub, 1) := by decide +kernel
theorem dX4_line_201 : decode cX4_line 201 = .ok (.lstore 18, 2) := by decide +kernel
theorem dX4_line_203 : decode cX4_line 203 = .ok (.lload 14, 2) := by decide +kernel
theorem dX4_line_205 : decode cX4_line 205 = .ok (.lload 16, 2) := by decide +kernel
theorem dX4_line_207 : decode cX4_line 207 = .ok (.lload 18, 2) := by decide +kernel
theorem dX4_line_209 : decode cX4_line 209 = .ok (.invokestatic 146, 3) := by decide +kernel
theorem dX4_line_212 : decode cX4_line 212 = .ok (.lstore 20, 2) := by decide +kernel
theorem dX4_line_214 : decode cX4_line 214 = .ok (.lload 20, 2) := by decide +kernel
theorem dX4_line_216 : decode cX4_line 216 = .ok (.lconst 0, 1) := by decide +kernel
theorem dX4_line_217 : decode cX4_line 217 = .ok (.lcmp, 1) := by decide +kernel
theorem dX4_line_218 : decode cX4_line 218 = .ok (.ifCond .ne 16, 3) := by decide +kernel
theorem dX4_line_221 : decode cX4_line 221 = .ok (.iload 8, 2) := by decide +kernel
theorem dX4_line_223 : decode cX4_line 223 = .ok (.iload_n 2, 1) := by decide +kernel
theorem dX4_line_224 : decode cX4_line 224 = .ok (.i2l, 1) := by decide +kernel
theorem dX4_line_225 : decode cX4_line 225 = .ok (.iload_n 3, 1) := by decide +kernel
theorem dX4_line_226 : decode cX4_line 226 = .ok (.i2l, 1) := by decide +kernel
theorem dX4_line_227 : decode cX4_line 227 = .ok (.iload 4, 2) := by decide +kernel
theorem dX4_line_229 : decode cX4_line 229 = .ok (.i2l, 1) := by decide +kernel
theorem dX4_line_230 : decode cX4_line 230 = .ok (.invokestatic 136, 3) := by decide +kernel
theorem dX4_line_233 : decode cX4_line 233 = .ok (.lreturn, 1) := by decide +kernel
theorem dX4_line_234 : decode cX4_line 234 = .ok (.iload 8, 2) := by decide +kernel
theorem dX4_line_236 : decode cX4_line 236 = .ok (.lload 14, 2) := by decide +kernel
theorem dX4_line_238 : decode cX4_line 238 = .ok (.lload 16, 2) := by decide +kernel
theorem dX4_line_240 : decode cX4_line 240 = .ok (.lload 18, 2) := by decide +kernel
theorem dX4_line_242 : decode cX4_line 242 = .ok (.invokestatic 136, 3) := by decide +kernel
theorem dX4_line_245 : decode cX4_line 245 = .ok (.lload 20, 2) := by decide +kernel
theorem dX4_line_247 : decode cX4_line 247 = .ok (.ldiv, 1) := by decide +kernel
theorem dX4_line_248 : decode cX4_line 248 = .ok (.lreturn, 1) := by decide +kernel
theorem dX4_count_0 : decode cX4_count 0 = .ok (.iload_n 1, 1) := by decide +kernel
theorem dX4_count_1 : decode cX4_count 1 = .ok (.invokestatic 53, 3) := by decide +kernel
theorem dX4_count_4 : decode cX4_count 4 = .ok (.ifCond .eq 12, 3) := by decide +kernel
theorem dX4_count_7 : decode cX4_count 7 = .ok (.iload_n 2, 1) := by decide +kernel
theorem dX4_count_8 : decode cX4_count 8 = .ok (.ifCond .lt 8, 3) := by decide +kernel
theorem dX4_count_11 : decode cX4_count 11 = .ok (.iload_n 2, 1) := by decide +kernel
theorem dX4_count_12 : decode cX4_count 12 = .ok (.iconst 1, 1) := by decide +kernel
theorem dX4_count_13 : decode cX4_count 13 = .ok (.if_icmp .le 6, 3) := by decide +kernel
theorem dX4_count_16 : decode cX4_count 16 = .ok (.bipush (-3), 2) := by decide +kernel
theorem dX4_count_18 : decode cX4_count 18 = .ok (.ireturn, 1) := by decide +kernel
theorem dX4_count_19 : decode cX4_count 19 = .ok (.iload_n 2, 1) := by decide +kernel
theorem dX4_count_20 : decode cX4_count 20 = .ok (.ifCond .ne 15, 3) := by decide +kernel
theorem dX4_count_23 : decode cX4_count 23 = .ok (.aload_n 0, 1) := by decide +kernel
theorem dX4_count_24 : decode cX4_count 24 = .ok (.getfield 11, 3) := by decide +kernel
theorem dX4_count_27 : decode cX4_count 27 = .ok (.iload_n 1, 1) := by decide +kernel
theorem dX4_count_28 : decode cX4_count 28 = .ok (.aaload, 1) := by decide +kernel
theorem dX4_count_29 : decode cX4_count 29 = .ok (.getfield 60, 3) := by decide +kernel
theorem dX4_count_32 : decode cX4_count 32 = .ok (.goto 12, 3) := by decide +kernel
theorem dX4_count_35 : decode cX4_count 35 = .ok (.aload_n 0, 1) := by decide +kernel
theorem dX4_count_36 : decode cX4_count 36 = .ok (.getfield 11, 3) := by decide +kernel
theorem dX4_count_39 : decode cX4_count 39 = .ok (.iload_n 1, 1) := by decide +kernel
theorem dX4_count_40 : decode cX4_count 40 = .ok (.aaload, 1) := by decide +kernel
theorem dX4_count_41 : decode cX4_count 41 = .ok (.invokevirtual 150, 3) := by decide +kernel
theorem dX4_count_44 : decode cX4_count 44 = .ok (.ireturn, 1) := by decide +kernel
theorem dX4_trace_0 : decode cX4_trace 0 = .ok (.aload_n 0, 1) := by decide +kernel
theorem dX4_trace_1 : decode cX4_trace 1 = .ok (.getfield 31, 3) := by decide +kernel
theorem dX4_trace_4 : decode cX4_trace 4 = .ok (.lreturn, 1) := by decide +kernel
theorem dX4_isShelf_0 : decode cX4_isShelf 0 = .ok (.iload_n 0, 1) := by decide +kernel
theorem dX4_isShelf_1 : decode cX4_isShelf 1 = .ok (.ifCond .lt 12, 3) := by decide +kernel
theorem dX4_isShelf_4 : decode cX4_isShelf 4 = .ok (.iload_n 0, 1) := by decide +kernel
theorem dX4_isShelf_5 : decode cX4_isShelf 5 = .ok (.iconst 4, 1) := by decide +kernel
theorem dX4_isShelf_6 : decode cX4_isShelf 6 = .ok (.if_icmp .ge 7, 3) := by decide +kernel
theorem dX4_isShelf_9 : decode cX4_isShelf 9 = .ok (.iconst 1, 1) := by decide +kernel
theorem dX4_isShelf_10 : decode cX4_isShelf 10 = .ok (.goto 4, 3) := by decide +kernel
theorem dX4_isShelf_13 : decode cX4_isShelf 13 = .ok (.iconst 0, 1) := by decide +kernel
theorem dX4_isShelf_14 : decode cX4_isShelf 14 = .ok (.ireturn, 1) := by decide +kernel
theorem dX4_isNumber_0 : decode cX4_isNumber 0 = .ok (.iload_n 0, 1) := by decide +kernel
theorem dX4_isNumber_1 : decode cX4_isNumber 1 = .ok (.ifCond .eq 15, 3) := by decide +kernel
theorem dX4_isNumber_4 : decode cX4_isNumber 4 = .ok (.iload_n 0, 1) := by decide +kernel
theorem dX4_isNumber_5 : decode cX4_isNumber 5 = .ok (.iload_n 1, 1) := by decide +kernel
theorem dX4_isNumber_6 : decode cX4_isNumber 6 = .ok (.invokestatic 153, 3) := by decide +kernel
theorem dX4_isNumber_9 : decode cX4_isNumber 9 = .ok (.ifCond .eq 7, 3) := by decide +kernel
theorem dX4_isNumber_12 : decode cX4_isNumber 12 = .ok (.iconst 1, 1) := by decide +kernel
theorem dX4_isNumber_13 : decode cX4_isNumber 13 = .ok (.goto 4, 3) := by decide +kernel
theorem dX4_isNumber_16 : decode cX4_isNumber 16 = .ok (.iconst 0, 1) := by decide +kernel
theorem dX4_isNumber_17 : decode cX4_isNumber 17 = .ok (.ireturn, 1) := by decide +kernel
theorem dX4_isWithin_0 : decode cX4_isWithin 0 = .ok (.iload_n 0, 1) := by decide +kernel
theorem dX4_isWithin_1 : decode cX4_isWithin 1 = .ok (.iload_n 1, 1) := by decide +kernel
theorem dX4_isWithin_2 : decode cX4_isWithin 2 = .ok (.ineg, 1) := by decide +kernel
theorem dX4_isWithin_3 : decode cX4_isWithin 3 = .ok (.if_icmp .lt 12, 3) := by decide +kernel
theorem dX4_isWithin_6 : decode cX4_isWithin 6 = .ok (.iload_n 0, 1) := by decide +kernel
theorem dX4_isWithin_7 : decode cX4_isWithin 7 = .ok (.iload_n 1, 1) := by decide +kernel
theorem dX4_isWithin_8 : decode cX4_isWithin 8 = .ok (.if_icmp .gt 7, 3) := by decide +kernel
theorem dX4_isWithin_11 : decode cX4_isWithin 11 = .ok (.iconst 1, 1) := by decide +kernel
theorem dX4_isWithin_12 : decode cX4_isWithin 12 = .ok (.goto 4, 3) := by decide +kernel
theorem dX4_isWithin_15 : decode cX4_isWithin 15 = .ok (.iconst 0, 1) := by decide +kernel
theorem dX4_isWithin_16 : decode cX4_isWithin 16 = .ok (.ireturn, 1) := by decide +kernel
theorem dX4_areWithin_0 : decode cX4_areWithin 0 = .ok (.iload_n 0, 1) := by decide +kernel
theorem dX4_areWithin_1 : decode cX4_areWithin 1 = .ok (.iload_n 3, 1) := by decide +kernel
theorem dX4_areWithin_2 : decode cX4_areWithin 2 = .ok (.invokestatic 153, 3) := by decide +kernel
theorem dX4_areWithin_5 : decode cX4_areWithin 5 = .ok (.ifCond .eq 23, 3) := by decide +kernel
theorem dX4_areWithin_8 : decode cX4_areWithin 8 = .ok (.iload_n 1, 1) := by decide +kernel
theorem dX4_areWithin_9 : decode cX4_areWithin 9 = .ok (.iload_n 3, 1) := by decide +kernel
theorem dX4_areWithin_10 : decode cX4_areWithin 10 = .ok (.invokestatic 153, 3) := by decide +kernel
theorem dX4_areWithin_13 : decode cX4_areWithin 13 = .ok (.ifCond .eq 15, 3) := by decide +kernel
theorem dX4_areWithin_16 : decode cX4_areWithin 16 = .ok (.iload_n 2, 1) := by decide +kernel
theorem dX4_areWithin_17 : decode cX4_areWithin 17 = .ok (.iload_n 3, 1) := by decide +kernel
theorem dX4_areWithin_18 : decode cX4_areWithin 18 = .ok (.invokestatic 153, 3) := by decide +kernel
theorem dX4_areWithin_21 : decode cX4_areWithin 21 = .ok (.ifCond .eq 7, 3) := by decide +kernel
theorem dX4_areWithin_24 : decode cX4_areWithin 24 = .ok (.iconst 1, 1) := by decide +kernel
theorem dX4_areWithin_25 : decode cX4_areWithin 25 = .ok (.goto 4, 3) := by decide +kernel
theorem dX4_areWithin_28 : decode cX4_areWithin 28 = .ok (.iconst 0, 1) := by decide +kernel
theorem dX4_areWithin_29 : decode cX4_areWithin 29 = .ok (.ireturn, 1) := by decide +kernel
theorem dX4_pick_0 : decode cX4_pick 0 = .ok (.iload_n 0, 1) := by decide +kernel
theorem dX4_pick_1 : decode cX4_pick 1 = .ok (.ifCond .ne 7, 3) := by decide +kernel
theorem dX4_pick_4 : decode cX4_pick 4 = .ok (.lload_n 1, 1) := by decide +kernel
theorem dX4_pick_5 : decode cX4_pick 5 = .ok (.goto 14, 3) := by decide +kernel
theorem dX4_pick_8 : decode cX4_pick 8 = .ok (.iload_n 0, 1) := by decide +kernel
theorem dX4_pick_9 : decode cX4_pick 9 = .ok (.iconst 1, 1) := by decide +kernel
theorem dX4_pick_10 : decode cX4_pick 10 = .ok (.if_icmp .ne 7, 3) := by decide +kernel
theorem dX4_pick_13 : decode cX4_pick 13 = .ok (.lload_n 3, 1) := by decide +kernel
theorem dX4_pick_14 : decode cX4_pick 14 = .ok (.goto 5, 3) := by decide +kernel
theorem dX4_pick_17 : decode cX4_pick 17 = .ok (.lload 5, 2) := by decide +kernel
theorem dX4_pick_19 : decode cX4_pick 19 = .ok (.lreturn, 1) := by decide +kernel
theorem dX4_isReduced_0 : decode cX4_isReduced 0 = .ok (.iload_n 0, 1) := by decide +kernel
theorem dX4_isReduced_1 : decode cX4_isReduced 1 = .ok (.i2l, 1) := by decide +kernel
theorem dX4_isReduced_2 : decode cX4_isReduced 2 = .ok (.iload_n 1, 1) := by decide +kernel
theorem dX4_isReduced_3 : decode cX4_isReduced 3 = .ok (.i2l, 1) := by decide +kernel
theorem dX4_isReduced_4 : decode cX4_isReduced 4 = .ok (.iload_n 2, 1) := by decide +kernel
theorem dX4_isReduced_5 : decode cX4_isReduced 5 = .ok (.i2l, 1) := by decide +kernel
theorem dX4_isReduced_6 : decode cX4_isReduced 6 = .ok (.invokestatic 146, 3) := by decide +kernel
theorem dX4_isReduced_9 : decode cX4_isReduced 9 = .ok (.lconst 1, 1) := by decide +kernel
theorem dX4_isReduced_10 : decode cX4_isReduced 10 = .ok (.lcmp, 1) := by decide +kernel
theorem dX4_isReduced_11 : decode cX4_isReduced 11 = .ok (.ifCond .ne 7, 3) := by decide +kernel
theorem dX4_isReduced_14 : decode cX4_isReduced 14 = .ok (.iconst 1, 1) := by decide +kernel
theorem dX4_isReduced_15 : decode cX4_isReduced 15 = .ok (.goto 4, 3) := by decide +kernel
theorem dX4_isReduced_18 : decode cX4_isReduced 18 = .ok (.iconst 0, 1) := by decide +kernel
theorem dX4_isReduced_19 : decode cX4_isReduced 19 = .ok (.ireturn, 1) := by decide +kernel
theorem dX4_reducer_0 : decode cX4_reducer 0 = .ok (.lload_n 0, 1) := by decide +kernel
theorem dX4_reducer_1 : decode cX4_reducer 1 = .ok (.lload_n 2, 1) := by decide +kernel
theorem dX4_reducer_2 : decode cX4_reducer 2 = .ok (.lload 4, 2) := by decide +kernel
theorem dX4_reducer_4 : decode cX4_reducer 4 = .ok (.invokestatic 156, 3) := by decide +kernel
theorem dX4_reducer_7 : decode cX4_reducer 7 = .ok (.invokestatic 156, 3) := by decide +kernel
theorem dX4_reducer_10 : decode cX4_reducer 10 = .ok (.lstore 6, 2) := by decide +kernel
theorem dX4_reducer_12 : decode cX4_reducer 12 = .ok (.lload_n 0, 1) := by decide +kernel
theorem dX4_reducer_13 : decode cX4_reducer 13 = .ok (.lconst 0, 1) := by decide +kernel
theorem dX4_reducer_14 : decode cX4_reducer 14 = .ok (.lcmp, 1) := by decide +kernel
theorem dX4_reducer_15 : decode cX4_reducer 15 = .ok (.ifCond .eq 7, 3) := by decide +kernel
theorem dX4_reducer_18 : decode cX4_reducer 18 = .ok (.lload_n 0, 1) := by decide +kernel
theorem dX4_reducer_19 : decode cX4_reducer 19 = .ok (.goto 15, 3) := by decide +kernel
theorem dX4_reducer_22 : decode cX4_reducer 22 = .ok (.lload_n 2, 1) := by decide +kernel
theorem dX4_reducer_23 : decode cX4_reducer 23 = .ok (.lconst 0, 1) := by decide +kernel
theorem dX4_reducer_24 : decode cX4_reducer 24 = .ok (.lcmp, 1) := by decide +kernel
theorem dX4_reducer_25 : decode cX4_reducer 25 = .ok (.ifCond .eq 7, 3) := by decide +kernel
theorem dX4_reducer_28 : decode cX4_reducer 28 = .ok (.lload_n 2, 1) := by decide +kernel
theorem dX4_reducer_29 : decode cX4_reducer 29 = .ok (.goto 5, 3) := by decide +kernel
theorem dX4_reducer_32 : decode cX4_reducer 32 = .ok (.lload 4, 2) := by decide +kernel
theorem dX4_reducer_34 : decode cX4_reducer 34 = .ok (.lstore 8, 2) := by decide +kernel
theorem dX4_reducer_36 : decode cX4_reducer 36 = .ok (.lload 8, 2) := by decide +kernel
theorem dX4_reducer_38 : decode cX4_reducer 38 = .ok (.lconst 0, 1) := by decide +kernel
theorem dX4_reducer_39 : decode cX4_reducer 39 = .ok (.lcmp, 1) := by decide +kernel
theorem dX4_reducer_40 : decode cX4_reducer 40 = .ok (.ifCond .ge 9, 3) := by decide +kernel
theorem dX4_reducer_43 : decode cX4_reducer 43 = .ok (.lload 6, 2) := by decide +kernel
theorem dX4_reducer_45 : decode cX4_reducer 45 = .ok (.lneg, 1) := by decide +kernel
theorem dX4_reducer_46 : decode cX4_reducer 46 = .ok (.goto 5, 3) := by decide +kernel
theorem dX4_reducer_49 : decode cX4_reducer 49 = .ok (.lload 6, 2) := by decide +kernel
theorem dX4_reducer_51 : decode cX4_reducer 51 = .ok (.lreturn, 1) := by decide +kernel
theorem dX4_commonDivisor_0 : decode cX4_commonDivisor 0 = .ok (.lload_n 0, 1) := by decide +kernel
theorem dX4_commonDivisor_1 : decode cX4_commonDivisor 1 = .ok (.invokestatic 160, 3) := by decide +kernel
theorem dX4_commonDivisor_4 : decode cX4_commonDivisor 4 = .ok (.lstore 4, 2) := by decide +kernel
theorem dX4_commonDivisor_6 : decode cX4_commonDivisor 6 = .ok (.lload_n 2, 1) := by decide +kernel
theorem dX4_commonDivisor_7 : decode cX4_commonDivisor 7 = .ok (.invokestatic 160, 3) := by decide +kernel
theorem dX4_commonDivisor_10 : decode cX4_commonDivisor 10 = .ok (.lstore 6, 2) := by decide +kernel
theorem dX4_commonDivisor_12 : decode cX4_commonDivisor 12 = .ok (.iconst 0, 1) := by decide +kernel
theorem dX4_commonDivisor_13 : decode cX4_commonDivisor 13 = .ok (.istore 8, 2) := by decide +kernel
theorem dX4_commonDivisor_15 : decode cX4_commonDivisor 15 = .ok (.iload 8, 2) := by decide +kernel
theorem dX4_commonDivisor_17 : decode cX4_commonDivisor 17 = .ok (.bipush 100, 2) := by decide +kernel
theorem dX4_commonDivisor_19 : decode cX4_commonDivisor 19 = .ok (.if_icmp .ge 31, 3) := by decide +kernel
theorem dX4_commonDivisor_22 : decode cX4_commonDivisor 22 = .ok (.lload 6, 2) := by decide +kernel
theorem dX4_commonDivisor_24 : decode cX4_commonDivisor 24 = .ok (.lconst 0, 1) := by decide +kernel
theorem dX4_commonDivisor_25 : decode cX4_commonDivisor 25 = .ok (.lcmp, 1) := by decide +kernel
theorem dX4_commonDivisor_26 : decode cX4_commonDivisor 26 = .ok (.ifCond .eq 24, 3) := by decide +kernel
theorem dX4_commonDivisor_29 : decode cX4_commonDivisor 29 = .ok (.lload 4, 2) := by decide +kernel
theorem dX4_commonDivisor_31 : decode cX4_commonDivisor 31 = .ok (.lload 6, 2) := by decide +kernel
theorem dX4_commonDivisor_33 : decode cX4_commonDivisor 33 = .ok (.lrem, 1) := by decide +kernel
theorem dX4_commonDivisor_34 : decode cX4_commonDivisor 34 = .ok (.lstore 9, 2) := by decide +kernel
theorem dX4_commonDivisor_36 : decode cX4_commonDivisor 36 = .ok (.lload 6, 2) := by decide +kernel
theorem dX4_commonDivisor_38 : decode cX4_commonDivisor 38 = .ok (.lstore 4, 2) := by decide +kernel
theorem dX4_commonDivisor_40 : decode cX4_commonDivisor 40 = .ok (.lload 9, 2) := by decide +kernel
theorem dX4_commonDivisor_42 : decode cX4_commonDivisor 42 = .ok (.lstore 6, 2) := by decide +kernel
theorem dX4_commonDivisor_44 : decode cX4_commonDivisor 44 = .ok (.iinc 8 1, 3) := by decide +kernel
theorem dX4_commonDivisor_47 : decode cX4_commonDivisor 47 = .ok (.goto (-32), 3) := by decide +kernel
theorem dX4_commonDivisor_50 : decode cX4_commonDivisor 50 = .ok (.lload 4, 2) := by decide +kernel
theorem dX4_commonDivisor_52 : decode cX4_commonDivisor 52 = .ok (.lreturn, 1) := by decide +kernel
theorem dX5_init_0 : decode cX5_init 0 = .ok (.aload_n 0, 1) := by decide +kernel
theorem dX5_init_1 : decode cX5_init 1 = .ok (.invokespecial 1, 3) := by decide +kernel
theorem dX5_init_4 : decode cX5_init 4 = .ok (.aload_n 0, 1) := by decide +kernel
theorem dX5_init_5 : decode cX5_init 5 = .ok (.iconst 4, 1) := by decide +kernel
theorem dX5_init_6 : decode cX5_init 6 = .ok (.newarray .int, 2) := by decide +kernel
theorem dX5_init_8 : decode cX5_init 8 = .ok (.putfield 7, 3) := by decide +kernel
theorem dX5_init_11 : decode cX5_init 11 = .ok (.aload_n 0, 1) := by decide +kernel
theorem dX5_init_12 : decode cX5_init 12 = .ok (.bipush 24, 2) := by decide +kernel
theorem dX5_init_14 : decode cX5_init 14 = .ok (.newarray .int, 2) := by decide +kernel
theorem dX5_init_16 : decode cX5_init 16 = .ok (.putfield 13, 3) := by decide +kernel
theorem dX5_init_19 : decode cX5_init 19 = .ok (.iconst 0, 1) := by decide +kernel
theorem dX5_init_20 : decode cX5_init 20 = .ok (.istore_n 1, 1) := by decide +kernel
theorem dX5_init_21 : decode cX5_init 21 = .ok (.iload_n 1, 1) := by decide +kernel
theorem dX5_init_22 : decode cX5_init 22 = .ok (.iconst 4, 1) := by decide +kernel
theorem dX5_init_23 : decode cX5_init 23 = .ok (.if_icmp .ge 26, 3) := by decide +kernel
theorem dX5_init_26 : decode cX5_init 26 = .ok (.aload_n 0, 1) := by decide +kernel
theorem dX5_init_27 : decode cX5_init 27 = .ok (.getfield 7, 3) := by decide +kernel
theorem dX5_init_30 : decode cX5_init 30 = .ok (.iload_n 1, 1) := by decide +kernel
theorem dX5_init_31 : decode cX5_init 31 = .ok (.iconst 1, 1) := by decide +kernel
theorem dX5_init_32 : decode cX5_init 32 = .ok (.iastore, 1) := by decide +kernel
theorem dX5_init_33 : decode cX5_init 33 = .ok (.aload_n 0, 1) := by decide +kernel
theorem dX5_init_34 : decode cX5_init 34 = .ok (.getfield 13, 3) := by decide +kernel
theorem dX5_init_37 : decode cX5_init 37 = .ok (.bipush 6, 2) := by decide +kernel
theorem dX5_init_39 : decode cX5_init 39 = .ok (.iload_n 1, 1) := by decide +kernel
theorem dX5_init_40 : decode cX5_init 40 = .ok (.imul, 1) := by decide +kernel
theorem dX5_init_41 : decode cX5_init 41 = .ok (.iconst 1, 1) := by decide +kernel
theorem dX5_init_42 : decode cX5_init 42 = .ok (.iastore, 1) := by decide +kernel
theorem dX5_init_43 : decode cX5_init 43 = .ok (.iinc 1 1, 3) := by decide +kernel
theorem dX5_init_46 : decode cX5_init 46 = .ok (.goto (-25), 3) := by decide +kernel
theorem dX5_init_49 : decode cX5_init 49 = .ok (.return_, 1) := by decide +kernel
theorem dX5_in_0 : decode cX5_in 0 = .ok (.lload_n 0, 1) := by decide +kernel
theorem dX5_in_1 : decode cX5_in 1 = .ok (.lload_n 2, 1) := by decide +kernel
theorem dX5_in_2 : decode cX5_in 2 = .ok (.lcmp, 1) := by decide +kernel
theorem dX5_in_3 : decode cX5_in 3 = .ok (.ifCond .lt 14, 3) := by decide +kernel
theorem dX5_in_6 : decode cX5_in 6 = .ok (.lload_n 0, 1) := by decide +kernel
theorem dX5_in_7 : decode cX5_in 7 = .ok (.lload 4, 2) := by decide +kernel
theorem dX5_in_9 : decode cX5_in 9 = .ok (.lcmp, 1) := by decide +kernel
theorem dX5_in_10 : decode cX5_in 10 = .ok (.ifCond .gt 7, 3) := by decide +kernel
theorem dX5_in_13 : decode cX5_in 13 = .ok (.iconst 1, 1) := by decide +kernel
theorem dX5_in_14 : decode cX5_in 14 = .ok (.goto 4, 3) := by decide +kernel
theorem dX5_in_17 : decode cX5_in 17 = .ok (.iconst 0, 1) := by decide +kernel
theorem dX5_in_18 : decode cX5_in 18 = .ok (.ireturn, 1) := by decide +kernel
theorem dX5_isPrime_0 : decode cX5_isPrime 0 = .ok (.iload_n 0, 1) := by decide +kernel
theorem dX5_isPrime_1 : decode cX5_isPrime 1 = .ok (.iconst 1, 1) := by decide +kernel
theorem dX5_isPrime_2 : decode cX5_isPrime 2 = .ok (.if_icmp .le 7, 3) := by decide +kernel
theorem dX5_isPrime_5 : decode cX5_isPrime 5 = .ok (.iconst 1, 1) := by decide +kernel
theorem dX5_isPrime_6 : decode cX5_isPrime 6 = .ok (.goto 4, 3) := by decide +kernel
theorem dX5_isPrime_9 : decode cX5_isPrime 9 = .ok (.iconst 0, 1) := by decide +kernel
theorem dX5_isPrime_10 : decode cX5_isPrime 10 = .ok (.istore_n 1, 1) := by decide +kernel
theorem dX5_isPrime_11 : decode cX5_isPrime 11 = .ok (.iconst 2, 1) := by decide +kernel
theorem dX5_isPrime_12 : decode cX5_isPrime 12 = .ok (.istore_n 2, 1) := by decide +kernel
theorem dX5_isPrime_13 : decode cX5_isPrime 13 = .ok (.iload_n 2, 1) := by decide +kernel
theorem dX5_isPrime_14 : decode cX5_isPrime 14 = .ok (.iload_n 2, 1) := by decide +kernel
theorem dX5_isPrime_15 : decode cX5_isPrime 15 = .ok (.imul, 1) := by decide +kernel
theorem dX5_isPrime_16 : decode cX5_isPrime 16 = .ok (.iload_n 0, 1) := by decide +kernel
theorem dX5_isPrime_17 : decode cX5_isPrime 17 = .ok (.if_icmp .gt 25, 3) := by decide +kernel
theorem dX5_isPrime_20 : decode cX5_isPrime 20 = .ok (.iload_n 1, 1) := by decide +kernel
theorem dX5_isPrime_21 : decode cX5_isPrime 21 = .ok (.ifCond .eq 21, 3) := by decide +kernel
theorem dX5_isPrime_24 : decode cX5_isPrime 24 = .ok (.iload_n 0, 1) := by decide +kernel
theorem dX5_isPrime_25 : decode cX5_isPrime 25 = .ok (.iload_n 2, 1) := by decide +kernel
theorem dX5_isPrime_26 : decode cX5_isPrime 26 = .ok (.irem, 1) := by decide +kernel
theorem dX5_isPrime_27 : decode cX5_isPrime 27 = .ok (.ifCond .eq 7, 3) := by decide +kernel
theorem dX5_isPrime_30 : decode cX5_isPrime 30 = .ok (.iconst 1, 1) := by decide +kernel
theorem dX5_isPrime_31 : decode cX5_isPrime 31 = .ok (.goto 4, 3) := by decide +kernel
theorem dX5_isPrime_34 : decode cX5_isPrime 34 = .ok (.iconst 0, 1) := by decide +kernel
theorem dX5_isPrime_35 : decode cX5_isPrime 35 = .ok (.istore_n 1, 1) := by decide +kernel
theorem dX5_isPrime_36 : decode cX5_isPrime 36 = .ok (.iinc 2 1, 3) := by decide +kernel
theorem dX5_isPrime_39 : decode cX5_isPrime 39 = .ok (.goto (-26), 3) := by decide +kernel
theorem dX5_isPrime_42 : decode cX5_isPrime 42 = .ok (.iload_n 1, 1) := by decide +kernel
theorem dX5_isPrime_43 : decode cX5_isPrime 43 = .ok (.ireturn, 1) := by decide +kernel
theorem dX5_isPlace_0 : decode cX5_isPlace 0 = .ok (.iload_n 0, 1) := by decide +kernel
theorem dX5_isPlace_1 : decode cX5_isPlace 1 = .ok (.ifCond .eq 24, 3) := by decide +kernel
theorem dX5_isPlace_4 : decode cX5_isPlace 4 = .ok (.iload_n 0, 1) := by decide +kernel
theorem dX5_isPlace_5 : decode cX5_isPlace 5 = .ok (.i2l, 1) := by decide +kernel
theorem dX5_isPlace_6 : decode cX5_isPlace 6 = .ok (.ldc2_w 20, 3) := by decide +kernel
theorem dX5_isPlace_9 : decode cX5_isPlace 9 = .ok (.ldc2_w 22, 3) := by decide +kernel
theorem dX5_isPlace_12 : decode cX5_isPlace 12 = .ok (.invokestatic 24, 3) := by decide +kernel
theorem dX5_isPlace_15 : decode cX5_isPlace 15 = .ok (.ifCond .eq 14, 3) := by decide +kernel
theorem dX5_isPlace_18 : decode cX5_isPlace 18 = .ok (.iload_n 0, 1) := by decide +kernel
theorem dX5_isPlace_19 : decode cX5_isPlace 19 = .ok (.invokestatic 28, 3) := by decide +kernel
theorem dX5_isPlace_22 : decode cX5_isPlace 22 = .ok (.ifCond .eq 7, 3) := by decide +kernel
theorem dX5_isPlace_25 : decode cX5_isPlace 25 = .ok (.iconst 1, 1) := by decide +kernel
theorem dX5_isPlace_26 : decode cX5_isPlace 26 = .ok (.goto 4, 3) := by decide +kernel
theorem dX5_isPlace_29 : decode cX5_isPlace 29 = .ok (.iconst 0, 1) := by decide +kernel
theorem dX5_isPlace_30 : decode cX5_isPlace 30 = .ok (.ireturn, 1) := by decide +kernel
theorem dX5_isTold_0 : decode cX5_isTold 0 = .ok (.iload_n 0, 1) := by decide +kernel
theorem dX5_isTold_1 : decode cX5_isTold 1 = .ok (.ifCond .eq 20, 3) := by decide +kernel
theorem dX5_isTold_4 : decode cX5_isTold 4 = .ok (.iload_n 0, 1) := by decide +kernel
theorem dX5_isTold_5 : decode cX5_isTold 5 = .ok (.i2l, 1) := by decide +kernel
theorem dX5_isTold_6 : decode cX5_isTold 6 = .ok (.iload_n 1, 1) := by decide +kernel
theorem dX5_isTold_7 : decode cX5_isTold 7 = .ok (.ineg, 1) := by decide +kernel
theorem dX5_isTold_8 : decode cX5_isTold 8 = .ok (.i2l, 1) := by decide +kernel
theorem dX5_isTold_9 : decode cX5_isTold 9 = .ok (.iload_n 1, 1) := by decide +kernel
theorem dX5_isTold_10 : decode cX5_isTold 10 = .ok (.i2l, 1) := by decide +kernel
theorem dX5_isTold_11 : decode cX5_isTold 11 = .ok (.invokestatic 24, 3) := by decide +kernel
theorem dX5_isTold_14 : decode cX5_isTold 14 = .ok (.ifCond .eq 7, 3) := by decide +kernel
theorem dX5_isTold_17 : decode cX5_isTold 17 = .ok (.iconst 1, 1) := by decide +kernel
theorem dX5_isTold_18 : decode cX5_isTold 18 = .ok (.goto 4, 3) := by decide +kernel
theorem dX5_isTold_21 : decode cX5_isTold 21 = .ok (.iconst 0, 1) := by decide +kernel
theorem dX5_isTold_22 : decode cX5_isTold 22 = .ok (.ireturn, 1) := by decide +kernel
theorem dX5_without_0 : decode cX5_without 0 = .ok (.lload_n 1, 1) := by decide +kernel
theorem dX5_without_1 : decode cX5_without 1 = .ok (.lstore 4, 2) := by decide +kernel
theorem dX5_without_3 : decode cX5_without 3 = .ok (.aload_n 0, 1) := by decide +kernel
theorem dX5_without_4 : decode cX5_without 4 = .ok (.iconst 0, 1) := by decide +kernel
theorem dX5_without_5 : decode cX5_without 5 = .ok (.putfield 32, 3) := by decide +kernel
theorem dX5_without_8 : decode cX5_without 8 = .ok (.lload 4, 2) := by decide +kernel
theorem dX5_without_10 : decode cX5_without 10 = .ok (.iload_n 3, 1) := by decide +kernel
theorem dX5_without_11 : decode cX5_without 11 = .ok (.i2l, 1) := by decide +kernel
theorem dX5_without_12 : decode cX5_without 12 = .ok (.lrem, 1) := by decide +kernel
theorem dX5_without_13 : decode cX5_without 13 = .ok (.lconst 0, 1) := by decide +kernel
theorem dX5_without_14 : decode cX5_without 14 = .ok (.lcmp, 1) := by decide +kernel
theorem dX5_without_15 : decode cX5_without 15 = .ok (.ifCond .ne 23, 3) := by decide +kernel
theorem dX5_without_18 : decode cX5_without 18 = .ok (.lload 4, 2) := by decide +kernel
theorem dX5_without_20 : decode cX5_without 20 = .ok (.iload_n 3, 1) := by decide +kernel
theorem dX5_without_21 : decode cX5_without 21 = .ok (.i2l, 1) := by decide +kernel
theorem dX5_without_22 : decode cX5_without 22 = .ok (.ldiv, 1) := by decide +kernel
theorem dX5_without_23 : decode cX5_without 23 = .ok (.lstore 4, 2) := by decide +kernel
theorem dX5_without_25 : decode cX5_without 25 = .ok (.aload_n 0, 1) := by decide +kernel
theorem dX5_without_26 : decode cX5_without 26 = .ok (.dup, 1) := by decide +kernel
theorem dX5_without_27 : decode cX5_without 27 = .ok (.getfield 32, 3) := by decide +kernel
theorem dX5_without_30 : decode cX5_without 30 = .ok (.iconst 1, 1) := by decide +kernel
theorem dX5_without_31 : decode cX5_without 31 = .ok (.iadd, 1) := by decide +kernel
theorem dX5_without_32 : decode cX5_without 32 = .ok (.putfield 32, 3) := by decide +kernel
theorem dX5_without_35 : decode cX5_without 35 = .ok (.goto (-27), 3) := by decide +kernel
theorem dX5_without_38 : decode cX5_without 38 = .ok (.lload 4, 2) := by decide +kernel
theorem dX5_without_40 : decode cX5_without 40 = .ok (.lreturn, 1) := by decide +kernel
theorem dX5_root_0 : decode cX5_root 0 = .ok (.lload_n 0, 1) := by decide +kernel
theorem dX5_root_1 : decode cX5_root 1 = .ok (.iload_n 2, 1) := by decide +kernel
theorem dX5_root_2 : decode cX5_root 2 = .ok (.i2l, 1) := by decide +kernel
theorem dX5_root_3 : decode cX5_root 3 = .ok (.lrem, 1) := by decide +kernel
theorem dX5_root_4 : decode cX5_root 4 = .ok (.lstore_n 3, 1) := by decide +kernel
theorem dX5_root_5 : decode cX5_root 5 = .ok (.lload_n 3, 1) := by decide +kernel
theorem dX5_root_6 : decode cX5_root 6 = .ok (.lconst 0, 1) := by decide +kernel
theorem dX5_root_7 : decode cX5_root 7 = .ok (.lcmp, 1) := by decide +kernel
theorem dX5_root_8 : decode cX5_root 8 = .ok (.ifCond .ge 10, 3) := by decide +kernel
theorem dX5_root_11 : decode cX5_root 11 = .ok (.lload_n 3, 1) := by decide +kernel
theorem dX5_root_12 : decode cX5_root 12 = .ok (.iload_n 2, 1) := by decide +kernel
theorem dX5_root_13 : decode cX5_root 13 = .ok (.i2l, 1) := by decide +kernel
theorem dX5_root_14 : decode cX5_root 14 = .ok (.ladd, 1) := by decide +kernel
theorem dX5_root_15 : decode cX5_root 15 = .ok (.goto 4, 3) := by decide +kernel
theorem dX5_root_18 : decode cX5_root 18 = .ok (.lload_n 3, 1) := by decide +kernel
theorem dX5_root_19 : decode cX5_root 19 = .ok (.lstore_n 3, 1) := by decide +kernel
theorem dX5_root_20 : decode cX5_root 20 = .ok (.lconst 1, 1) := by decide +kernel
theorem dX5_root_21 : decode cX5_root 21 = .ok (.lstore 5, 2) := by decide +kernel
theorem dX5_root_23 : decode cX5_root 23 = .ok (.iconst 0, 1) := by decide +kernel
theorem dX5_root_24 : decode cX5_root 24 = .ok (.istore 7, 2) := by decide +kernel
theorem dX5_root_26 : decode cX5_root 26 = .ok (.iload 7, 2) := by decide +kernel
theorem dX5_root_28 : decode cX5_root 28 = .ok (.iload_n 2, 1) := by decide +kernel
theorem dX5_root_29 : decode cX5_root 29 = .ok (.iconst 1, 1) := by decide +kernel
theorem dX5_root_30 : decode cX5_root 30 = .ok (.isub, 1) := by decide +kernel
theorem dX5_root_31 : decode cX5_root 31 = .ok (.iconst 2, 1) := by decide +kernel
theorem dX5_root_32 : decode cX5_root 32 = .ok (.idiv, 1) := by decide +kernel
theorem dX5_root_33 : decode cX5_root 33 = .ok (.if_icmp .ge 18, 3) := by decide +kernel
theorem dX5_root_36 : decode cX5_root 36 = .ok (.lload 5, 2) := by decide +kernel
theorem dX5_root_38 : decode cX5_root 38 = .ok (.lload_n 3, 1) := by decide +kernel
theorem dX5_root_39 : decode cX5_root 39 = .ok (.lmul, 1) := by decide +kernel
theorem dX5_root_40 : decode cX5_root 40 = .ok (.iload_n 2, 1) := by decide +kernel
theorem dX5_root_41 : decode cX5_root 41 = .ok (.i2l, 1) := by decide +kernel
theorem dX5_root_42 : decode cX5_root 42 = .ok (.lrem, 1) := by decide +kernel
theorem dX5_root_43 : decode cX5_root 43 = .ok (.lstore 5, 2) := by decide +kernel
theorem dX5_root_45 : decode cX5_root 45 = .ok (.iinc 7 1, 3) := by decide +kernel
theorem dX5_root_48 : decode cX5_root 48 = .ok (.goto (-22), 3) := by decide +kernel
theorem dX5_root_51 : decode cX5_root 51 = .ok (.lload 5, 2) := by decide +kernel
theorem dX5_root_53 : decode cX5_root 53 = .ok (.lconst 1, 1) := by decide +kernel
theorem dX5_root_54 : decode cX5_root 54 = .ok (.lcmp, 1) := by decide +kernel
theorem dX5_root_55 : decode cX5_root 55 = .ok (.ifCond .ne 7, 3) := by decide +kernel
theorem dX5_root_58 : decode cX5_root 58 = .ok (.iconst 1, 1) := by decide +kernel
theorem dX5_root_59 : decode cX5_root 59 = .ok (.goto 4, 3) := by decide +kernel
theorem dX5_root_62 : decode cX5_root 62 = .ok (.iconst (-1), 1) := by decide +kernel
theorem dX5_root_63 : decode cX5_root 63 = .ok (.ireturn, 1) := by decide +kernel
theorem dX5_rest_0 : decode cX5_rest 0 = .ok (.lload_n 0, 1) := by decide +kernel
theorem dX5_rest_1 : decode cX5_rest 1 = .ok (.ldc2_w 35, 3) := by decide +kernel
theorem dX5_rest_4 : decode cX5_rest 4 = .ok (.lrem, 1) := by decide +kernel
theorem dX5_rest_5 : decode cX5_rest 5 = .ok (.l2i, 1) := by decide +kernel
theorem dX5_rest_6 : decode cX5_rest 6 = .ok (.istore_n 2, 1) := by decide +kernel
theorem dX5_rest_7 : decode cX5_rest 7 = .ok (.iload_n 2, 1) := by decide +kernel
theorem dX5_rest_8 : decode cX5_rest 8 = .ok (.ifCond .ge 10, 3) := by decide +kernel
theorem dX5_rest_11 : decode cX5_rest 11 = .ok (.iload_n 2, 1) := by decide +kernel
theorem dX5_rest_12 : decode cX5_rest 12 = .ok (.bipush 8, 2) := by decide +kernel
theorem dX5_rest_14 : decode cX5_rest 14 = .ok (.iadd, 1) := by decide +kernel
theorem dX5_rest_15 : decode cX5_rest 15 = .ok (.goto 4, 3) := by decide +kernel
theorem dX5_rest_18 : decode cX5_rest 18 = .ok (.iload_n 2, 1) := by decide +kernel
theorem dX5_rest_19 : decode cX5_rest 19 = .ok (.ireturn, 1) := by decide +kernel
theorem dX5_signOf_0 : decode cX5_signOf 0 = .ok (.iload 5, 2) := by decide +kernel
theorem dX5_signOf_2 : decode cX5_signOf 2 = .ok (.ifCond .ne 21, 3) := by decide +kernel
theorem dX5_signOf_5 : decode cX5_signOf 5 = .ok (.lload_n 1, 1) := by decide +kernel
theorem dX5_signOf_6 : decode cX5_signOf 6 = .ok (.lconst 0, 1) := by decide +kernel
theorem dX5_signOf_7 : decode cX5_signOf 7 = .ok (.lcmp, 1) := by decide +kernel
theorem dX5_signOf_8 : decode cX5_signOf 8 = .ok (.ifCond .ge 13, 3) := by decide +kernel
theorem dX5_signOf_11 : decode cX5_signOf 11 = .ok (.lload_n 3, 1) := by decide +kernel
theorem dX5_signOf_12 : decode cX5_signOf 12 = .ok (.lconst 0, 1) := by decide +kernel
theorem dX5_signOf_13 : decode cX5_signOf 13 = .ok (.lcmp, 1) := by decide +kernel
theorem dX5_signOf_14 : decode cX5_signOf 14 = .ok (.ifCond .ge 7, 3) := by decide +kernel
theorem dX5_signOf_17 : decode cX5_signOf 17 = .ok (.iconst (-1), 1) := by decide +kernel
theorem dX5_signOf_18 : decode cX5_signOf 18 = .ok (.goto 4, 3) := by decide +kernel
theorem dX5_signOf_21 : decode cX5_signOf 21 = .ok (.iconst 1, 1) := by decide +kernel
theorem dX5_signOf_22 : decode cX5_signOf 22 = .ok (.ireturn, 1) := by decide +kernel
theorem dX5_signOf_23 : decode cX5_signOf 23 = .ok (.aload_n 0, 1) := by decide +kernel
theorem dX5_signOf_24 : decode cX5_signOf 24 = .ok (.lload_n 1, 1) := by decide +kernel
theorem dX5_signOf_25 : decode cX5_signOf 25 = .ok (.iload 5, 2) := by decide +kernel
theorem dX5_signOf_27 : decode cX5_signOf 27 = .ok (.invokevirtual 37, 3) := by decide +kernel
theorem dX5_signOf_30 : decode cX5_signOf 30 = .ok (.lstore 6, 2) := by decide +kernel
theorem dX5_signOf_32 : decode cX5_signOf 32 = .ok (.aload_n 0, 1) := by decide +kernel
theorem dX5_signOf_33 : decode cX5_signOf 33 = .ok (.getfield 32, 3) := by decide +kernel
theorem dX5_signOf_36 : decode cX5_signOf 36 = .ok (.istore 8, 2) := by decide +kernel
theorem dX5_signOf_38 : decode cX5_signOf 38 = .ok (.aload_n 0, 1) := by decide +kernel
theorem dX5_signOf_39 : decode cX5_signOf 39 = .ok (.lload_n 3, 1) := by decide +kernel
theorem dX5_signOf_40 : decode cX5_signOf 40 = .ok (.iload 5, 2) := by decide +kernel
theorem dX5_signOf_42 : decode cX5_signOf 42 = .ok (.invokevirtual 37, 3) := by decide +kernel
theorem dX5_signOf_45 : decode cX5_signOf 45 = .ok (.lstore 9, 2) := by decide +kernel
theorem dX5_signOf_47 : decode cX5_signOf 47 = .ok (.aload_n 0, 1) := by decide +kernel
theorem dX5_signOf_48 : decode cX5_signOf 48 = .ok (.getfield 32, 3) := by decide +kernel
theorem dX5_signOf_51 : decode cX5_signOf 51 = .ok (.istore 11, 2) := by decide +kernel
theorem dX5_signOf_53 : decode cX5_signOf 53 = .ok (.iload 5, 2) := by decide +kernel
theorem dX5_signOf_55 : decode cX5_signOf 55 = .ok (.iconst 2, 1) := by decide +kernel
theorem dX5_signOf_56 : decode cX5_signOf 56 = .ok (.if_icmp .ne 73, 3) := by decide +kernel
theorem dX5_signOf_59 : decode cX5_signOf 59 = .ok (.lload 6, 2) := by decide +kernel
theorem dX5_signOf_61 : decode cX5_signOf 61 = .ok (.invokestatic 41, 3) := by decide +kernel
theorem dX5_signOf_64 : decode cX5_signOf 64 = .ok (.istore 12, 2) := by decide +kernel
theorem dX5_signOf_66 : decode cX5_signOf 66 = .ok (.lload 9, 2) := by decide +kernel
theorem dX5_signOf_68 : decode cX5_signOf 68 = .ok (.invokestatic 41, 3) := by decide +kernel
theorem dX5_signOf_71 : decode cX5_signOf 71 = .ok (.istore 13, 2) := by decide +kernel
theorem dX5_signOf_73 : decode cX5_signOf 73 = .ok (.iload 12, 2) := by decide +kernel
theorem dX5_signOf_75 : decode cX5_signOf 75 = .ok (.iconst 1, 1) := by decide +kernel
theorem dX5_signOf_76 : decode cX5_signOf 76 = .ok (.isub, 1) := by decide +kernel
theorem dX5_signOf_77 : decode cX5_signOf 77 = .ok (.iconst 2, 1) := by decide +kernel
theorem dX5_signOf_78 : decode cX5_signOf 78 = .ok (.idiv, 1) := by decide +kernel
theorem dX5_signOf_79 : decode cX5_signOf 79 = .ok (.iload 13, 2) := by decide +kernel
theorem dX5_signOf_81 : decode cX5_signOf 81 = .ok (.iconst 1, 1) := by decide +kernel
theorem dX5_signOf_82 : decode cX5_signOf 82 = .ok (.isub, 1) := by decide +kernel
theorem dX5_signOf_83 : decode cX5_signOf 83 = .ok (.iconst 2, 1) := by decide +kernel
theorem dX5_signOf_84 : decode cX5_signOf 84 = .ok (.idiv, 1) := by decide +kernel
theorem dX5_signOf_85 : decode cX5_signOf 85 = .ok (.imul, 1) := by decide +kernel
theorem dX5_signOf_86 : decode cX5_signOf 86 = .ok (.iload 8, 2) := by decide +kernel
theorem dX5_signOf_88 : decode cX5_signOf 88 = .ok (.iload 13, 2) := by decide +kernel
theorem dX5_signOf_90 : decode cX5_signOf 90 = .ok (.iload 13, 2) := by decide +kernel
theorem dX5_signOf_92 : decode cX5_signOf 92 = .ok (.imul, 1) := by decide +kernel
theorem dX5_signOf_93 : decode cX5_signOf 93 = .ok (.iconst 1, 1) := by decide +kernel
theorem dX5_signOf_94 : decode cX5_signOf 94 = .ok (.isub, 1) := by decide +kernel
theorem dX5_signOf_95 : decode cX5_signOf 95 = .ok (.bipush 8, 2) := by decide +kernel
theorem dX5_signOf_97 : decode cX5_signOf 97 = .ok (.idiv, 1) := by decide +kernel
theorem dX5_signOf_98 : decode cX5_signOf 98 = .ok (.imul, 1) := by decide +kernel
theorem dX5_signOf_99 : decode cX5_signOf 99 = .ok (.iadd, 1) := by decide +kernel
theorem dX5_signOf_100 : decode cX5_signOf 100 = .ok (.iload 11, 2) := by decide +kernel
theorem dX5_signOf_102 : decode cX5_signOf 102 = .ok (.iload 12, 2) := by decide +kernel
theorem dX5_signOf_104 : decode cX5_signOf 104 = .ok (.iload 12, 2) := by decide +kernel
theorem dX5_signOf_106 : decode cX5_signOf 106 = .ok (.imul, 1) := by decide +kernel
theorem dX5_signOf_107 : decode cX5_signOf 107 = .ok (.iconst 1, 1) := by decide +kernel
theorem dX5_signOf_108 : decode cX5_signOf 108 = .ok (.isub, 1) := by decide +kernel
theorem dX5_signOf_109 : decode cX5_signOf 109 = .ok (.bipush 8, 2) := by decide +kernel
theorem dX5_signOf_111 : decode cX5_signOf 111 = .ok (.idiv, 1) := by decide +kernel
theorem dX5_signOf_112 : decode cX5_signOf 112 = .ok (.imul, 1) := by decide +kernel
theorem dX5_signOf_113 : decode cX5_signOf 113 = .ok (.iadd, 1) := by decide +kernel
theorem dX5_signOf_114 : decode cX5_signOf 114 = .ok (.istore 14, 2) := by decide +kernel
theorem dX5_signOf_116 : decode cX5_signOf 116 = .ok (.iload 14, 2) := by decide +kernel
theorem dX5_signOf_118 : decode cX5_signOf 118 = .ok (.iconst 2, 1) := by decide +kernel
theorem dX5_signOf_119 : decode cX5_signOf 119 = .ok (.irem, 1) := by decide +kernel
theorem dX5_signOf_120 : decode cX5_signOf 120 = .ok (.ifCond .ne 7, 3) := by decide +kernel
theorem dX5_signOf_123 : decode cX5_signOf 123 = .ok (.iconst 1, 1) := by decide +kernel
theorem dX5_signOf_124 : decode cX5_signOf 124 = .ok (.goto 4, 3) := by decide +kernel
theorem dX5_signOf_127 : decode cX5_signOf 127 = .ok (.iconst (-1), 1) := by decide +kernel
theorem dX5_signOf_128 : decode cX5_signOf 128 = .ok (.ireturn, 1) := by decide +kernel
theorem dX5_signOf_129 : decode cX5_signOf 129 = .ok (.iload 8, 2) := by decide +kernel
theorem dX5_signOf_131 : decode cX5_signOf 131 = .ok (.iconst 2, 1) := by decide +kernel
theorem dX5_signOf_132 : decode cX5_signOf 132 = .ok (.irem, 1) := by decide +kernel
theorem dX5_signOf_133 : decode cX5_signOf 133 = .ok (.iconst 1, 1) := by decide +kernel
theorem dX5_signOf_134 : decode cX5_signOf 134 = .ok (.if_icmp .ne 27, 3) := by decide +kernel
theorem dX5_signOf_137 : decode cX5_signOf 137 = .ok (.iload 11, 2) := by decide +kernel
theorem dX5_signOf_139 : decode cX5_signOf 139 = .ok (.iconst 2, 1) := by decide +kernel
theorem dX5_signOf_140 : decode cX5_signOf 140 = .ok (.irem, 1) := by decide +kernel
theorem dX5_signOf_141 : decode cX5_signOf 141 = .ok (.iconst 1, 1) := by decide +kernel
theorem dX5_signOf_142 : decode cX5_signOf 142 = .ok (.if_icmp .ne 19, 3) := by decide +kernel
theorem dX5_signOf_145 : decode cX5_signOf 145 = .ok (.iload 5, 2) := by decide +kernel
theorem dX5_signOf_147 : decode cX5_signOf 147 = .ok (.iconst 1, 1) := by decide +kernel
theorem dX5_signOf_148 : decode cX5_signOf 148 = .ok (.isub, 1) := by decide +kernel
theorem dX5_signOf_149 : decode cX5_signOf 149 = .ok (.iconst 2, 1) := by decide +kernel
theorem dX5_signOf_150 : decode cX5_signOf 150 = .ok (.idiv, 1) := by decide +kernel
theorem dX5_signOf_151 : decode cX5_signOf 151 = .ok (.iconst 2, 1) := by decide +kernel
theorem dX5_signOf_152 : decode cX5_signOf 152 = .ok (.irem, 1) := by decide +kernel
theorem dX5_signOf_153 : decode cX5_signOf 153 = .ok (.iconst 1, 1) := by decide +kernel
theorem dX5_signOf_154 : decode cX5_signOf 154 = .ok (.if_icmp .ne 7, 3) := by decide +kernel
theorem dX5_signOf_157 : decode cX5_signOf 157 = .ok (.iconst (-1), 1) := by decide +kernel
theorem dX5_signOf_158 : decode cX5_signOf 158 = .ok (.goto 4, 3) := by decide +kernel
theorem dX5_signOf_161 : decode cX5_signOf 161 = .ok (.iconst 1, 1) := by decide +kernel
theorem dX5_signOf_162 : decode cX5_signOf 162 = .ok (.istore 12, 2) := by decide +kernel
theorem dX5_signOf_164 : decode cX5_signOf 164 = .ok (.iload 12, 2) := by decide +kernel
theorem dX5_signOf_166 : decode cX5_signOf 166 = .ok (.iload 11, 2) := by decide +kernel
theorem dX5_signOf_168 : decode cX5_signOf 168 = .ok (.iconst 2, 1) := by decide +kernel
theorem dX5_signOf_169 : decode cX5_signOf 169 = .ok (.irem, 1) := by decide +kernel
theorem dX5_signOf_170 : decode cX5_signOf 170 = .ok (.iconst 1, 1) := by decide +kernel
theorem dX5_signOf_171 : decode cX5_signOf 171 = .ok (.if_icmp .ne 13, 3) := by decide +kernel
theorem dX5_signOf_174 : decode cX5_signOf 174 = .ok (.lload 6, 2) := by decide +kernel
theorem dX5_signOf_176 : decode cX5_signOf 176 = .ok (.iload 5, 2) := by decide +kernel
theorem dX5_signOf_178 : decode cX5_signOf 178 = .ok (.invokestatic 45, 3) := by decide +kernel
theorem dX5_signOf_181 : decode cX5_signOf 181 = .ok (.goto 4, 3) := by decide +kernel
theorem dX5_signOf_184 : decode cX5_signOf 184 = .ok (.iconst 1, 1) := by decide +kernel
theorem dX5_signOf_185 : decode cX5_signOf 185 = .ok (.imul, 1) := by decide +kernel
theorem dX5_signOf_186 : decode cX5_signOf 186 = .ok (.istore 12, 2) := by decide +kernel
theorem dX5_signOf_188 : decode cX5_signOf 188 = .ok (.iload 12, 2) := by decide +kernel
theorem dX5_signOf_190 : decode cX5_signOf 190 = .ok (.iload 8, 2) := by decide +kernel
theorem dX5_signOf_192 : decode cX5_signOf 192 = .ok (.iconst 2, 1) := by decide +kernel
theorem dX5_signOf_193 : decode cX5_signOf 193 = .ok (.irem, 1) := by decide +kernel
theorem dX5_signOf_194 : decode cX5_signOf 194 = .ok (.iconst 1, 1) := by decide +kernel
theorem dX5_signOf_195 : decode cX5_signOf 195 = .ok (.if_icmp .ne 13, 3) := by decide +kernel
theorem dX5_signOf_198 : decode cX5_signOf 198 = .ok (.lload 9, 2) := by decide +kernel
theorem dX5_signOf_200 : decode cX5_signOf 200 = .ok (.iload 5, 2) := by decide +kernel
theorem dX5_signOf_202 : decode cX5_signOf 202 = .ok (.invokestatic 45, 3) := by decide +kernel
theorem dX5_signOf_205 : decode cX5_signOf 205 = .ok (.goto 4, 3) := by decide +kernel
theorem dX5_signOf_208 : decode cX5_signOf 208 = .ok (.iconst 1, 1) := by decide +kernel
theorem dX5_signOf_209 : decode cX5_signOf 209 = .ok (.imul, 1) := by decide +kernel
theorem dX5_signOf_210 : decode cX5_signOf 210 = .ok (.ireturn, 1) := by decide +kernel
theorem dX5_free_0 : decode cX5_free 0 = .ok (.aload_n 0, 1) := by decide +kernel
theorem dX5_free_1 : decode cX5_free 1 = .ok (.iconst 0, 1) := by decide +kernel
theorem dX5_free_2 : decode cX5_free 2 = .ok (.putfield 16, 3) := by decide +kernel
theorem dX5_free_5 : decode cX5_free 5 = .ok (.iload_n 1, 1) := by decide +kernel
theorem dX5_free_6 : decode cX5_free 6 = .ok (.ldc 49, 2) := by decide +kernel
theorem dX5_free_8 : decode cX5_free 8 = .ok (.invokestatic 50, 3) := by decide +kernel
theorem dX5_free_11 : decode cX5_free 11 = .ok (.ifCond .ne 5, 3) := by decide +kernel
theorem dX5_free_14 : decode cX5_free 14 = .ok (.iconst 0, 1) := by decide +kernel
theorem dX5_free_15 : decode cX5_free 15 = .ok (.ireturn, 1) := by decide +kernel
theorem dX5_free_16 : decode cX5_free 16 = .ok (.iload_n 1, 1) := by decide +kernel
theorem dX5_free_17 : decode cX5_free 17 = .ok (.istore_n 2, 1) := by decide +kernel
theorem dX5_free_18 : decode cX5_free 18 = .ok (.iconst 2, 1) := by decide +kernel
theorem dX5_free_19 : decode cX5_free 19 = .ok (.istore_n 3, 1) := by decide +kernel
theorem dX5_free_20 : decode cX5_free 20 = .ok (.iload_n 3, 1) := by decide +kernel
theorem dX5_free_21 : decode cX5_free 21 = .ok (.sipush 1000, 3) := by decide +kernel
theorem dX5_free_24 : decode cX5_free 24 = .ok (.if_icmp .gt 26, 3) := by decide +kernel
theorem dX5_free_27 : decode cX5_free 27 = .ok (.iload_n 2, 1) := by decide +kernel
theorem dX5_free_28 : decode cX5_free 28 = .ok (.iload_n 3, 1) := by decide +kernel
theorem dX5_free_29 : decode cX5_free 29 = .ok (.iload_n 3, 1) := by decide +kernel
theorem dX5_free_30 : decode cX5_free 30 = .ok (.imul, 1) := by decide +kernel
theorem dX5_free_31 : decode cX5_free 31 = .ok (.irem, 1) := by decide +kernel
theorem dX5_free_32 : decode cX5_free 32 = .ok (.ifCond .ne 12, 3) := by decide +kernel
theorem dX5_free_35 : decode cX5_free 35 = .ok (.iload_n 2, 1) := by decide +kernel
theorem dX5_free_36 : decode cX5_free 36 = .ok (.iload_n 3, 1) := by decide +kernel
theorem dX5_free_37 : decode cX5_free 37 = .ok (.iload_n 3, 1) := by decide +kernel
theorem dX5_free_38 : decode cX5_free 38 = .ok (.imul, 1) := by decide +kernel
theorem dX5_free_39 : decode cX5_free 39 = .ok (.idiv, 1) := by decide +kernel
theorem dX5_free_40 : decode cX5_free 40 = .ok (.istore_n 2, 1) := by decide +kernel
theorem dX5_free_41 : decode cX5_free 41 = .ok (.goto (-14), 3) := by decide +kernel
theorem dX5_free_44 : decode cX5_free 44 = .ok (.iinc 3 1, 3) := by decide +kernel
theorem dX5_free_47 : decode cX5_free 47 = .ok (.goto (-27), 3) := by decide +kernel
theorem dX5_free_50 : decode cX5_free 50 = .ok (.iload_n 2, 1) := by decide +kernel
theorem dX5_free_51 : decode cX5_free 51 = .ok (.ireturn, 1) := by decide +kernel
theorem dX5_sign_0 : decode cX5_sign 0 = .ok (.aload_n 0, 1) := by decide +kernel
theorem dX5_sign_1 : decode cX5_sign 1 = .ok (.iconst 0, 1) := by decide +kernel
theorem dX5_sign_2 : decode cX5_sign 2 = .ok (.putfield 16, 3) := by decide +kernel
theorem dX5_sign_5 : decode cX5_sign 5 = .ok (.iload_n 1, 1) := by decide +kernel
theorem dX5_sign_6 : decode cX5_sign 6 = .ok (.ldc 49, 2) := by decide +kernel
theorem dX5_sign_8 : decode cX5_sign 8 = .ok (.invokestatic 50, 3) := by decide +kernel
theorem dX5_sign_11 : decode cX5_sign 11 = .ok (.ifCond .eq 31, 3) := by decide +kernel
theorem dX5_sign_14 : decode cX5_sign 14 = .ok (.iload_n 2, 1) := by decide +kernel
theorem dX5_sign_15 : decode cX5_sign 15 = .ok (.ldc 49, 2) := by decide +kernel
theorem dX5_sign_17 : decode cX5_sign 17 = .ok (.invokestatic 50, 3) := by decide +kernel
theorem dX5_sign_20 : decode cX5_sign 20 = .ok (.ifCond .eq 22, 3) := by decide +kernel
theorem dX5_sign_23 : decode cX5_sign 23 = .ok (.iload_n 3, 1) := by decide +kernel
theorem dX5_sign_24 : decode cX5_sign 24 = .ok (.invokestatic 54, 3) := by decide +kernel
theorem dX5_sign_27 : decode cX5_sign 27 = .ok (.ifCond .eq 15, 3) := by decide +kernel
theorem dX5_sign_30 : decode cX5_sign 30 = .ok (.aload_n 0, 1) := by decide +kernel
theorem dX5_sign_31 : decode cX5_sign 31 = .ok (.iload_n 1, 1) := by decide +kernel
theorem dX5_sign_32 : decode cX5_sign 32 = .ok (.i2l, 1) := by decide +kernel
theorem dX5_sign_33 : decode cX5_sign 33 = .ok (.iload_n 2, 1) := by decide +kernel
theorem dX5_sign_34 : decode cX5_sign 34 = .ok (.i2l, 1) := by decide +kernel
theorem dX5_sign_35 : decode cX5_sign 35 = .ok (.iload_n 3, 1) := by decide +kernel
theorem dX5_sign_36 : decode cX5_sign 36 = .ok (.invokevirtual 57, 3) := by decide +kernel
theorem dX5_sign_39 : decode cX5_sign 39 = .ok (.goto 5, 3) := by decide +kernel
theorem dX5_sign_42 : decode cX5_sign 42 = .ok (.bipush (-3), 2) := by decide +kernel
theorem dX5_sign_44 : decode cX5_sign 44 = .ok (.ireturn, 1) := by decide +kernel
theorem dX5_odds_0 : decode cX5_odds 0 = .ok (.aload_n 0, 1) := by decide +kernel
theorem dX5_odds_1 : decode cX5_odds 1 = .ok (.iconst 0, 1) := by decide +kernel
theorem dX5_odds_2 : decode cX5_odds 2 = .ok (.putfield 16, 3) := by decide +kernel
theorem dX5_odds_5 : decode cX5_odds 5 = .ok (.iload_n 1, 1) := by decide +kernel
theorem dX5_odds_6 : decode cX5_odds 6 = .ok (.sipush 400, 3) := by decide +kernel
theorem dX5_odds_9 : decode cX5_odds 9 = .ok (.invokestatic 50, 3) := by decide +kernel
theorem dX5_odds_12 : decode cX5_odds 12 = .ok (.ifCond .eq 13, 3) := by decide +kernel
theorem dX5_odds_15 : decode cX5_odds 15 = .ok (.iload_n 2, 1) := by decide +kernel
theorem dX5_odds_16 : decode cX5_odds 16 = .ok (.sipush 400, 3) := by decide +kernel
theorem dX5_odds_19 : decode cX5_odds 19 = .ok (.invokestatic 50, 3) := by decide +kernel
theorem dX5_odds_22 : decode cX5_odds 22 = .ok (.ifCond .ne 6, 3) := by decide +kernel
theorem dX5_odds_25 : decode cX5_odds 25 = .ok (.bipush (-3), 2) := by decide +kernel
theorem dX5_odds_27 : decode cX5_odds 27 = .ok (.ireturn, 1) := by decide +kernel
theorem dX5_odds_28 : decode cX5_odds 28 = .ok (.iconst 0, 1) := by decide +kernel
theorem dX5_odds_29 : decode cX5_odds 29 = .ok (.istore_n 3, 1) := by decide +kernel
theorem dX5_odds_30 : decode cX5_odds 30 = .ok (.iconst 0, 1) := by decide +kernel
theorem dX5_odds_31 : decode cX5_odds 31 = .ok (.istore 4, 2) := by decide +kernel
theorem dX5_odds_33 : decode cX5_odds 33 = .ok (.iload 4, 2) := by decide +kernel
theorem dX5_odds_35 : decode cX5_odds 35 = .ok (.sipush 398, 3) := by decide +kernel
theorem dX5_odds_38 : decode cX5_odds 38 = .ok (.if_icmp .ge 38, 3) := by decide +kernel
theorem dX5_odds_41 : decode cX5_odds 41 = .ok (.iload_n 3, 1) := by decide +kernel
theorem dX5_odds_42 : decode cX5_odds 42 = .ok (.iload 4, 2) := by decide +kernel
theorem dX5_odds_44 : decode cX5_odds 44 = .ok (.invokestatic 54, 3) := by decide +kernel
theorem dX5_odds_47 : decode cX5_odds 47 = .ok (.ifCond .eq 20, 3) := by decide +kernel
theorem dX5_odds_50 : decode cX5_odds 50 = .ok (.aload_n 0, 1) := by decide +kernel
theorem dX5_odds_51 : decode cX5_odds 51 = .ok (.iload_n 1, 1) := by decide +kernel
theorem dX5_odds_52 : decode cX5_odds 52 = .ok (.i2l, 1) := by decide +kernel
theorem dX5_odds_53 : decode cX5_odds 53 = .ok (.iload_n 2, 1) := by decide +kernel
theorem dX5_odds_54 : decode cX5_odds 54 = .ok (.i2l, 1) := by decide +kernel
theorem dX5_odds_55 : decode cX5_odds 55 = .ok (.iload 4, 2) := by decide +kernel
theorem dX5_odds_57 : decode cX5_odds 57 = .ok (.invokevirtual 57, 3) := by decide +kernel
theorem dX5_odds_60 : decode cX5_odds 60 = .ok (.ifCond .ge 7, 3) := by decide +kernel
theorem dX5_odds_63 : decode cX5_odds 63 = .ok (.iconst 1, 1) := by decide +kernel
theorem dX5_odds_64 : decode cX5_odds 64 = .ok (.goto 4, 3) := by decide +kernel
theorem dX5_odds_67 : decode cX5_odds 67 = .ok (.iconst 0, 1) := by decide +kernel
theorem dX5_odds_68 : decode cX5_odds 68 = .ok (.iadd, 1) := by decide +kernel
theorem dX5_odds_69 : decode cX5_odds 69 = .ok (.istore_n 3, 1) := by decide +kernel
theorem dX5_odds_70 : decode cX5_odds 70 = .ok (.iinc 4 1, 3) := by decide +kernel
theorem dX5_odds_73 : decode cX5_odds 73 = .ok (.goto (-40), 3) := by decide +kernel
theorem dX5_odds_76 : decode cX5_odds 76 = .ok (.iload_n 3, 1) := by decide +kernel
theorem dX5_odds_77 : decode cX5_odds 77 = .ok (.ireturn, 1) := by decide +kernel
theorem dX5_isShelf_0 : decode cX5_isShelf 0 = .ok (.iload_n 0, 1) := by decide +kernel
theorem dX5_isShelf_1 : decode cX5_isShelf 1 = .ok (.i2l, 1) := by decide +kernel
theorem dX5_isShelf_2 : decode cX5_isShelf 2 = .ok (.lconst 0, 1) := by decide +kernel
theorem dX5_isShelf_3 : decode cX5_isShelf 3 = .ok (.ldc2_w 61, 3) := by decide +kernel
theorem dX5_isShelf_6 : decode cX5_isShelf 6 = .ok (.invokestatic 24, 3) := by decide +kernel
theorem dX5_isShelf_9 : decode cX5_isShelf 9 = .ok (.ireturn, 1) := by decide +kernel
theorem dX5_form_0 : decode cX5_form 0 = .ok (.aload_n 0, 1) := by decide +kernel
theorem dX5_form_1 : decode cX5_form 1 = .ok (.iconst 0, 1) := by decide +kernel
theorem dX5_form_2 : decode cX5_form 2 = .ok (.putfield 16, 3) := by decide +kernel
theorem dX5_form_5 : decode cX5_form 5 = .ok (.iload_n 1, 1) := by decide +kernel
theorem dX5_form_6 : decode cX5_form 6 = .ok (.invokestatic 63, 3) := by decide +kernel
theorem dX5_form_9 : decode cX5_form 9 = .ok (.ifCond .eq 89, 3) := by decide +kernel
theorem dX5_form_12 : decode cX5_form 12 = .ok (.iload_n 2, 1) := by decide +kernel
theorem dX5_form_13 : decode cX5_form 13 = .ok (.i2l, 1) := by decide +kernel
theorem dX5_form_14 : decode cX5_form 14 = .ok (.lconst 1, 1) := by decide +kernel
theorem dX5_form_15 : decode cX5_form 15 = .ok (.ldc2_w 66, 3) := by decide +kernel
theorem dX5_form_18 : decode cX5_form 18 = .ok (.invokestatic 24, 3) := by decide +kernel
theorem dX5_form_21 : decode cX5_form 21 = .ok (.ifCond .eq 77, 3) := by decide +kernel
theorem dX5_form_24 : decode cX5_form 24 = .ok (.iload_n 3, 1) := by decide +kernel
theorem dX5_form_25 : decode cX5_form 25 = .ok (.sipush 400, 3) := by decide +kernel
theorem dX5_form_28 : decode cX5_form 28 = .ok (.invokestatic 50, 3) := by decide +kernel
theorem dX5_form_31 : decode cX5_form 31 = .ok (.ifCond .eq 67, 3) := by decide +kernel
theorem dX5_form_34 : decode cX5_form 34 = .ok (.iload_n 2, 1) := by decide +kernel
theorem dX5_form_35 : decode cX5_form 35 = .ok (.iconst 1, 1) := by decide +kernel
theorem dX5_form_36 : decode cX5_form 36 = .ok (.if_icmp .le 14, 3) := by decide +kernel
theorem dX5_form_39 : decode cX5_form 39 = .ok (.iload 4, 2) := by decide +kernel
theorem dX5_form_41 : decode cX5_form 41 = .ok (.sipush 400, 3) := by decide +kernel
theorem dX5_form_44 : decode cX5_form 44 = .ok (.invokestatic 50, 3) := by decide +kernel
theorem dX5_form_47 : decode cX5_form 47 = .ok (.ifCond .eq 51, 3) := by decide +kernel
theorem dX5_form_50 : decode cX5_form 50 = .ok (.iload_n 2, 1) := by decide +kernel
theorem dX5_form_51 : decode cX5_form 51 = .ok (.iconst 2, 1) := by decide +kernel
theorem dX5_form_52 : decode cX5_form 52 = .ok (.if_icmp .le 14, 3) := by decide +kernel
theorem dX5_form_55 : decode cX5_form 55 = .ok (.iload 5, 2) := by decide +kernel
theorem dX5_form_57 : decode cX5_form 57 = .ok (.sipush 400, 3) := by decide +kernel
theorem dX5_form_60 : decode cX5_form 60 = .ok (.invokestatic 50, 3) := by decide +kernel
theorem dX5_form_63 : decode cX5_form 63 = .ok (.ifCond .eq 35, 3) := by decide +kernel
theorem dX5_form_66 : decode cX5_form 66 = .ok (.iload_n 2, 1) := by decide +kernel
theorem dX5_form_67 : decode cX5_form 67 = .ok (.iconst 3, 1) := by decide +kernel
theorem dX5_form_68 : decode cX5_form 68 = .ok (.if_icmp .le 14, 3) := by decide +kernel
theorem dX5_form_71 : decode cX5_form 71 = .ok (.iload 6, 2) := by decide +kernel
theorem dX5_form_73 : decode cX5_form 73 = .ok (.sipush 400, 3) := by decide +kernel
theorem dX5_form_76 : decode cX5_form 76 = .ok (.invokestatic 50, 3) := by decide +kernel
theorem dX5_form_79 : decode cX5_form 79 = .ok (.ifCond .eq 19, 3) := by decide +kernel
theorem dX5_form_82 : decode cX5_form 82 = .ok (.iload_n 2, 1) := by decide +kernel
theorem dX5_form_83 : decode cX5_form 83 = .ok (.iconst 4, 1) := by decide +kernel
theorem dX5_form_84 : decode cX5_form 84 = .ok (.if_icmp .le 17, 3) := by decide +kernel
theorem dX5_form_87 : decode cX5_form 87 = .ok (.iload 7, 2) := by decide +kernel
theorem dX5_form_89 : decode cX5_form 89 = .ok (.sipush 400, 3) := by decide +kernel
theorem dX5_form_92 : decode cX5_form 92 = .ok (.invokestatic 50, 3) := by decide +kernel
theorem dX5_form_95 : decode cX5_form 95 = .ok (.ifCond .ne 6, 3) := by decide +kernel
theorem dX5_form_98 : decode cX5_form 98 = .ok (.bipush (-3), 2) := by decide +kernel
theorem dX5_form_100 : decode cX5_form 100 = .ok (.ireturn, 1) := by decide +kernel
theorem dX5_form_101 : decode cX5_form 101 = .ok (.bipush 6, 2) := by decide +kernel
theorem dX5_form_103 : decode cX5_form 103 = .ok (.iload_n 1, 1) := by decide +kernel
theorem dX5_form_104 : decode cX5_form 104 = .ok (.imul, 1) := by decide +kernel
theorem dX5_form_105 : decode cX5_form 105 = .ok (.istore 8, 2) := by decide +kernel
theorem dX5_form_107 : decode cX5_form 107 = .ok (.aload_n 0, 1) := by decide +kernel
theorem dX5_form_108 : decode cX5_form 108 = .ok (.getfield 7, 3) := by decide +kernel
theorem dX5_form_111 : decode cX5_form 111 = .ok (.iload_n 1, 1) := by decide +kernel
theorem dX5_form_112 : decode cX5_form 112 = .ok (.iload_n 2, 1) := by decide +kernel
theorem dX5_form_113 : decode cX5_form 113 = .ok (.iastore, 1) := by decide +kernel
theorem dX5_form_114 : decode cX5_form 114 = .ok (.aload_n 0, 1) := by decide +kernel
theorem dX5_form_115 : decode cX5_form 115 = .ok (.getfield 13, 3) := by decide +kernel
theorem dX5_form_118 : decode cX5_form 118 = .ok (.iload 8, 2) := by decide +kernel
theorem dX5_form_120 : decode cX5_form 120 = .ok (.iload_n 3, 1) := by decide +kernel
theorem dX5_form_121 : decode cX5_form 121 = .ok (.iastore, 1) := by decide +kernel
theorem dX5_form_122 : decode cX5_form 122 = .ok (.aload_n 0, 1) := by decide +kernel
theorem dX5_form_123 : decode cX5_form 123 = .ok (.getfield 13, 3) := by decide +kernel
theorem dX5_form_126 : decode cX5_form 126 = .ok (.iload 8, 2) := by decide +kernel
