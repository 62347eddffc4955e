theorem dX0_init_0 : decode cX0_init 0 = .ok (.aload_n 0, 1) := by decide +kernel
theorem dX0_init_1 : decode cX0_init 1 = .ok (.invokespecial 3, 3) := by decide +kernel
theorem dX0_init_4 : decode cX0_init 4 = .ok (.aload_n 0, 1) := by decide +kernel
theorem dX0_init_5 : decode cX0_init 5 = .ok (.bipush 6, 2) := by decide +kernel
theorem dX0_init_7 : decode cX0_init 7 = .ok (.newarray .int, 2) := by decide +kernel
theorem dX0_init_9 : decode cX0_init 9 = .ok (.putfield 9, 3) := by decide +kernel
theorem dX0_init_12 : decode cX0_init 12 = .ok (.aload_n 0, 1) := by decide +kernel
theorem dX0_init_13 : decode cX0_init 13 = .ok (.getfield 9, 3) := by decide +kernel
theorem dX0_init_16 : decode cX0_init 16 = .ok (.iconst 0, 1) := by decide +kernel
theorem dX0_init_17 : decode cX0_init 17 = .ok (.iconst 1, 1) := by decide +kernel
theorem dX0_init_18 : decode cX0_init 18 = .ok (.iastore, 1) := by decide +kernel
theorem dX0_init_19 : decode cX0_init 19 = .ok (.aload_n 0, 1) := by decide +kernel
theorem dX0_init_20 : decode cX0_init 20 = .ok (.iconst 1, 1) := by decide +kernel
theorem dX0_init_21 : decode cX0_init 21 = .ok (.putfield 15, 3) := by decide +kernel
theorem dX0_init_24 : decode cX0_init 24 = .ok (.return_, 1) := by decide +kernel
theorem dX0_take_0 : decode cX0_take 0 = .ok (.iconst 0, 1) := by decide +kernel
theorem dX0_take_1 : decode cX0_take 1 = .ok (.istore_n 3, 1) := by decide +kernel
theorem dX0_take_2 : decode cX0_take 2 = .ok (.iconst 0, 1) := by decide +kernel
theorem dX0_take_3 : decode cX0_take 3 = .ok (.istore 4, 2) := by decide +kernel
theorem dX0_take_5 : decode cX0_take 5 = .ok (.iload 4, 2) := by decide +kernel
theorem dX0_take_7 : decode cX0_take 7 = .ok (.iload_n 2, 1) := by decide +kernel
theorem dX0_take_8 : decode cX0_take 8 = .ok (.if_icmp .ge 40, 3) := by decide +kernel
theorem dX0_take_11 : decode cX0_take 11 = .ok (.iload 4, 2) := by decide +kernel
theorem dX0_take_13 : decode cX0_take 13 = .ok (.aload_n 1, 1) := by decide +kernel
theorem dX0_take_14 : decode cX0_take 14 = .ok (.arraylength, 1) := by decide +kernel
theorem dX0_take_15 : decode cX0_take 15 = .ok (.if_icmp .ge 33, 3) := by decide +kernel
theorem dX0_take_18 : decode cX0_take 18 = .ok (.iload 4, 2) := by decide +kernel
theorem dX0_take_20 : decode cX0_take 20 = .ok (.aload_n 0, 1) := by decide +kernel
theorem dX0_take_21 : decode cX0_take 21 = .ok (.getfield 9, 3) := by decide +kernel
theorem dX0_take_24 : decode cX0_take 24 = .ok (.arraylength, 1) := by decide +kernel
theorem dX0_take_25 : decode cX0_take 25 = .ok (.if_icmp .ge 23, 3) := by decide +kernel
theorem dX0_take_28 : decode cX0_take 28 = .ok (.aload_n 0, 1) := by decide +kernel
theorem dX0_take_29 : decode cX0_take 29 = .ok (.getfield 9, 3) := by decide +kernel
theorem dX0_take_32 : decode cX0_take 32 = .ok (.iload 4, 2) := by decide +kernel
theorem dX0_take_34 : decode cX0_take 34 = .ok (.aload_n 1, 1) := by decide +kernel
theorem dX0_take_35 : decode cX0_take 35 = .ok (.iload 4, 2) := by decide +kernel
theorem dX0_take_37 : decode cX0_take 37 = .ok (.iaload, 1) := by decide +kernel
theorem dX0_take_38 : decode cX0_take 38 = .ok (.iastore, 1) := by decide +kernel
theorem dX0_take_39 : decode cX0_take 39 = .ok (.iinc 3 1, 3) := by decide +kernel
theorem dX0_take_42 : decode cX0_take 42 = .ok (.iinc 4 1, 3) := by decide +kernel
theorem dX0_take_45 : decode cX0_take 45 = .ok (.goto (-40), 3) := by decide +kernel
theorem dX0_take_48 : decode cX0_take 48 = .ok (.aload_n 0, 1) := by decide +kernel
theorem dX0_take_49 : decode cX0_take 49 = .ok (.iload_n 3, 1) := by decide +kernel
theorem dX0_take_50 : decode cX0_take 50 = .ok (.putfield 15, 3) := by decide +kernel
theorem dX0_take_53 : decode cX0_take 53 = .ok (.return_, 1) := by decide +kernel
theorem dX0_append_0 : decode cX0_append 0 = .ok (.aload_n 0, 1) := by decide +kernel
theorem dX0_append_1 : decode cX0_append 1 = .ok (.getfield 15, 3) := by decide +kernel
theorem dX0_append_4 : decode cX0_append 4 = .ok (.aload_n 0, 1) := by decide +kernel
theorem dX0_append_5 : decode cX0_append 5 = .ok (.getfield 9, 3) := by decide +kernel
theorem dX0_append_8 : decode cX0_append 8 = .ok (.arraylength, 1) := by decide +kernel
theorem dX0_append_9 : decode cX0_append 9 = .ok (.if_icmp .ge 23, 3) := by decide +kernel
theorem dX0_append_12 : decode cX0_append 12 = .ok (.aload_n 0, 1) := by decide +kernel
theorem dX0_append_13 : decode cX0_append 13 = .ok (.getfield 9, 3) := by decide +kernel
theorem dX0_append_16 : decode cX0_append 16 = .ok (.aload_n 0, 1) := by decide +kernel
theorem dX0_append_17 : decode cX0_append 17 = .ok (.getfield 15, 3) := by decide +kernel
theorem dX0_append_20 : decode cX0_append 20 = .ok (.iload_n 1, 1) := by decide +kernel
theorem dX0_append_21 : decode cX0_append 21 = .ok (.iastore, 1) := by decide +kernel
theorem dX0_append_22 : decode cX0_append 22 = .ok (.aload_n 0, 1) := by decide +kernel
theorem dX0_append_23 : decode cX0_append 23 = .ok (.dup, 1) := by decide +kernel
theorem dX0_append_24 : decode cX0_append 24 = .ok (.getfield 15, 3) := by decide +kernel
theorem dX0_append_27 : decode cX0_append 27 = .ok (.iconst 1, 1) := by decide +kernel
theorem dX0_append_28 : decode cX0_append 28 = .ok (.iadd, 1) := by decide +kernel
theorem dX0_append_29 : decode cX0_append 29 = .ok (.putfield 15, 3) := by decide +kernel
theorem dX0_append_32 : decode cX0_append 32 = .ok (.return_, 1) := by decide +kernel
theorem dX0_product_0 : decode cX0_product 0 = .ok (.lconst 1, 1) := by decide +kernel
theorem dX0_product_1 : decode cX0_product 1 = .ok (.lstore_n 1, 1) := by decide +kernel
theorem dX0_product_2 : decode cX0_product 2 = .ok (.iconst 0, 1) := by decide +kernel
theorem dX0_product_3 : decode cX0_product 3 = .ok (.istore_n 3, 1) := by decide +kernel
theorem dX0_product_4 : decode cX0_product 4 = .ok (.iload_n 3, 1) := by decide +kernel
theorem dX0_product_5 : decode cX0_product 5 = .ok (.aload_n 0, 1) := by decide +kernel
theorem dX0_product_6 : decode cX0_product 6 = .ok (.getfield 15, 3) := by decide +kernel
theorem dX0_product_9 : decode cX0_product 9 = .ok (.if_icmp .ge 19, 3) := by decide +kernel
theorem dX0_product_12 : decode cX0_product 12 = .ok (.lload_n 1, 1) := by decide +kernel
theorem dX0_product_13 : decode cX0_product 13 = .ok (.aload_n 0, 1) := by decide +kernel
theorem dX0_product_14 : decode cX0_product 14 = .ok (.getfield 9, 3) := by decide +kernel
theorem dX0_product_17 : decode cX0_product 17 = .ok (.iload_n 3, 1) := by decide +kernel
theorem dX0_product_18 : decode cX0_product 18 = .ok (.iaload, 1) := by decide +kernel
theorem dX0_product_19 : decode cX0_product 19 = .ok (.i2l, 1) := by decide +kernel
theorem dX0_product_20 : decode cX0_product 20 = .ok (.lmul, 1) := by decide +kernel
theorem dX0_product_21 : decode cX0_product 21 = .ok (.lstore_n 1, 1) := by decide +kernel
theorem dX0_product_22 : decode cX0_product 22 = .ok (.iinc 3 1, 3) := by decide +kernel
theorem dX0_product_25 : decode cX0_product 25 = .ok (.goto (-21), 3) := by decide +kernel
theorem dX0_product_28 : decode cX0_product 28 = .ok (.lload_n 1, 1) := by decide +kernel
theorem dX0_product_29 : decode cX0_product 29 = .ok (.lreturn, 1) := by decide +kernel
theorem dX0_freeProduct_0 : decode cX0_freeProduct 0 = .ok (.aload_n 0, 1) := by decide +kernel
theorem dX0_freeProduct_1 : decode cX0_freeProduct 1 = .ok (.invokevirtual 19, 3) := by decide +kernel
theorem dX0_freeProduct_4 : decode cX0_freeProduct 4 = .ok (.lstore_n 1, 1) := by decide +kernel
theorem dX0_freeProduct_5 : decode cX0_freeProduct 5 = .ok (.getstatic 23, 3) := by decide +kernel
theorem dX0_freeProduct_8 : decode cX0_freeProduct 8 = .ok (.astore_n 3, 1) := by decide +kernel
theorem dX0_freeProduct_9 : decode cX0_freeProduct 9 = .ok (.aload_n 3, 1) := by decide +kernel
theorem dX0_freeProduct_10 : decode cX0_freeProduct 10 = .ok (.arraylength, 1) := by decide +kernel
theorem dX0_freeProduct_11 : decode cX0_freeProduct 11 = .ok (.istore 4, 2) := by decide +kernel
theorem dX0_freeProduct_13 : decode cX0_freeProduct 13 = .ok (.iconst 0, 1) := by decide +kernel
theorem dX0_freeProduct_14 : decode cX0_freeProduct 14 = .ok (.istore 5, 2) := by decide +kernel
theorem dX0_freeProduct_16 : decode cX0_freeProduct 16 = .ok (.iload 5, 2) := by decide +kernel
theorem dX0_freeProduct_18 : decode cX0_freeProduct 18 = .ok (.iload 4, 2) := by decide +kernel
theorem dX0_freeProduct_20 : decode cX0_freeProduct 20 = .ok (.if_icmp .ge 60, 3) := by decide +kernel
theorem dX0_freeProduct_23 : decode cX0_freeProduct 23 = .ok (.aload_n 3, 1) := by decide +kernel
theorem dX0_freeProduct_24 : decode cX0_freeProduct 24 = .ok (.iload 5, 2) := by decide +kernel
theorem dX0_freeProduct_26 : decode cX0_freeProduct 26 = .ok (.iaload, 1) := by decide +kernel
theorem dX0_freeProduct_27 : decode cX0_freeProduct 27 = .ok (.istore 6, 2) := by decide +kernel
theorem dX0_freeProduct_29 : decode cX0_freeProduct 29 = .ok (.iload 6, 2) := by decide +kernel
theorem dX0_freeProduct_31 : decode cX0_freeProduct 31 = .ok (.iload 6, 2) := by decide +kernel
theorem dX0_freeProduct_33 : decode cX0_freeProduct 33 = .ok (.imul, 1) := by decide +kernel
theorem dX0_freeProduct_34 : decode cX0_freeProduct 34 = .ok (.istore 7, 2) := by decide +kernel
theorem dX0_freeProduct_36 : decode cX0_freeProduct 36 = .ok (.iconst 0, 1) := by decide +kernel
theorem dX0_freeProduct_37 : decode cX0_freeProduct 37 = .ok (.istore 8, 2) := by decide +kernel
theorem dX0_freeProduct_39 : decode cX0_freeProduct 39 = .ok (.iload 8, 2) := by decide +kernel
theorem dX0_freeProduct_41 : decode cX0_freeProduct 41 = .ok (.bipush 64, 2) := by decide +kernel
theorem dX0_freeProduct_43 : decode cX0_freeProduct 43 = .ok (.if_icmp .ge 31, 3) := by decide +kernel
theorem dX0_freeProduct_46 : decode cX0_freeProduct 46 = .ok (.iload 7, 2) := by decide +kernel
theorem dX0_freeProduct_48 : decode cX0_freeProduct 48 = .ok (.iconst 1, 1) := by decide +kernel
theorem dX0_freeProduct_49 : decode cX0_freeProduct 49 = .ok (.if_icmp .le 25, 3) := by decide +kernel
theorem dX0_freeProduct_52 : decode cX0_freeProduct 52 = .ok (.lload_n 1, 1) := by decide +kernel
theorem dX0_freeProduct_53 : decode cX0_freeProduct 53 = .ok (.iload 7, 2) := by decide +kernel
theorem dX0_freeProduct_55 : decode cX0_freeProduct 55 = .ok (.i2l, 1) := by decide +kernel
theorem dX0_freeProduct_56 : decode cX0_freeProduct 56 = .ok (.lrem, 1) := by decide +kernel
theorem dX0_freeProduct_57 : decode cX0_freeProduct 57 = .ok (.lconst 0, 1) := by decide +kernel
theorem dX0_freeProduct_58 : decode cX0_freeProduct 58 = .ok (.lcmp, 1) := by decide +kernel
theorem dX0_freeProduct_59 : decode cX0_freeProduct 59 = .ok (.ifCond .ne 15, 3) := by decide +kernel
theorem dX0_freeProduct_62 : decode cX0_freeProduct 62 = .ok (.lload_n 1, 1) := by decide +kernel
theorem dX0_freeProduct_63 : decode cX0_freeProduct 63 = .ok (.iload 7, 2) := by decide +kernel
theorem dX0_freeProduct_65 : decode cX0_freeProduct 65 = .ok (.i2l, 1) := by decide +kernel
theorem dX0_freeProduct_66 : decode cX0_freeProduct 66 = .ok (.ldiv, 1) := by decide +kernel
theorem dX0_freeProduct_67 : decode cX0_freeProduct 67 = .ok (.lstore_n 1, 1) := by decide +kernel
theorem dX0_freeProduct_68 : decode cX0_freeProduct 68 = .ok (.iinc 8 1, 3) := by decide +kernel
theorem dX0_freeProduct_71 : decode cX0_freeProduct 71 = .ok (.goto (-32), 3) := by decide +kernel
theorem dX0_freeProduct_74 : decode cX0_freeProduct 74 = .ok (.iinc 5 1, 3) := by decide +kernel
theorem dX0_freeProduct_77 : decode cX0_freeProduct 77 = .ok (.goto (-61), 3) := by decide +kernel
theorem dX0_freeProduct_80 : decode cX0_freeProduct 80 = .ok (.lload_n 1, 1) := by decide +kernel
theorem dX0_freeProduct_81 : decode cX0_freeProduct 81 = .ok (.lreturn, 1) := by decide +kernel
theorem dX0_countAbove_0 : decode cX0_countAbove 0 = .ok (.iconst 0, 1) := by decide +kernel
theorem dX0_countAbove_1 : decode cX0_countAbove 1 = .ok (.istore_n 1, 1) := by decide +kernel
theorem dX0_countAbove_2 : decode cX0_countAbove 2 = .ok (.iconst 0, 1) := by decide +kernel
theorem dX0_countAbove_3 : decode cX0_countAbove 3 = .ok (.istore_n 2, 1) := by decide +kernel
theorem dX0_countAbove_4 : decode cX0_countAbove 4 = .ok (.iload_n 2, 1) := by decide +kernel
theorem dX0_countAbove_5 : decode cX0_countAbove 5 = .ok (.aload_n 0, 1) := by decide +kernel
theorem dX0_countAbove_6 : decode cX0_countAbove 6 = .ok (.getfield 15, 3) := by decide +kernel
theorem dX0_countAbove_9 : decode cX0_countAbove 9 = .ok (.if_icmp .ge 21, 3) := by decide +kernel
theorem dX0_countAbove_12 : decode cX0_countAbove 12 = .ok (.aload_n 0, 1) := by decide +kernel
theorem dX0_countAbove_13 : decode cX0_countAbove 13 = .ok (.getfield 9, 3) := by decide +kernel
theorem dX0_countAbove_16 : decode cX0_countAbove 16 = .ok (.iload_n 2, 1) := by decide +kernel
theorem dX0_countAbove_17 : decode cX0_countAbove 17 = .ok (.iaload, 1) := by decide +kernel
theorem dX0_countAbove_18 : decode cX0_countAbove 18 = .ok (.ifCond .le 6, 3) := by decide +kernel
theorem dX0_countAbove_21 : decode cX0_countAbove 21 = .ok (.iinc 1 1, 3) := by decide +kernel
theorem dX0_countAbove_24 : decode cX0_countAbove 24 = .ok (.iinc 2 1, 3) := by decide +kernel
theorem dX0_countAbove_27 : decode cX0_countAbove 27 = .ok (.goto (-23), 3) := by decide +kernel
theorem dX0_countAbove_30 : decode cX0_countAbove 30 = .ok (.iload_n 1, 1) := by decide +kernel
theorem dX0_countAbove_31 : decode cX0_countAbove 31 = .ok (.ireturn, 1) := by decide +kernel
theorem dX0_signsAt_0 : decode cX0_signsAt 0 = .ok (.iconst 1, 1) := by decide +kernel
theorem dX0_signsAt_1 : decode cX0_signsAt 1 = .ok (.istore_n 2, 1) := by decide +kernel
theorem dX0_signsAt_2 : decode cX0_signsAt 2 = .ok (.iconst 0, 1) := by decide +kernel
theorem dX0_signsAt_3 : decode cX0_signsAt 3 = .ok (.istore_n 3, 1) := by decide +kernel
theorem dX0_signsAt_4 : decode cX0_signsAt 4 = .ok (.iload_n 3, 1) := by decide +kernel
theorem dX0_signsAt_5 : decode cX0_signsAt 5 = .ok (.aload_n 0, 1) := by decide +kernel
theorem dX0_signsAt_6 : decode cX0_signsAt 6 = .ok (.getfield 15, 3) := by decide +kernel
theorem dX0_signsAt_9 : decode cX0_signsAt 9 = .ok (.if_icmp .ge 51, 3) := by decide +kernel
theorem dX0_signsAt_12 : decode cX0_signsAt 12 = .ok (.iload_n 3, 1) := by decide +kernel
theorem dX0_signsAt_13 : decode cX0_signsAt 13 = .ok (.iconst 1, 1) := by decide +kernel
theorem dX0_signsAt_14 : decode cX0_signsAt 14 = .ok (.iadd, 1) := by decide +kernel
theorem dX0_signsAt_15 : decode cX0_signsAt 15 = .ok (.istore 4, 2) := by decide +kernel
theorem dX0_signsAt_17 : decode cX0_signsAt 17 = .ok (.iload 4, 2) := by decide +kernel
theorem dX0_signsAt_19 : decode cX0_signsAt 19 = .ok (.aload_n 0, 1) := by decide +kernel
theorem dX0_signsAt_20 : decode cX0_signsAt 20 = .ok (.getfield 15, 3) := by decide +kernel
theorem dX0_signsAt_23 : decode cX0_signsAt 23 = .ok (.if_icmp .ge 31, 3) := by decide +kernel
theorem dX0_signsAt_26 : decode cX0_signsAt 26 = .ok (.iload_n 2, 1) := by decide +kernel
theorem dX0_signsAt_27 : decode cX0_signsAt 27 = .ok (.aload_n 0, 1) := by decide +kernel
theorem dX0_signsAt_28 : decode cX0_signsAt 28 = .ok (.getfield 9, 3) := by decide +kernel
theorem dX0_signsAt_31 : decode cX0_signsAt 31 = .ok (.iload_n 3, 1) := by decide +kernel
theorem dX0_signsAt_32 : decode cX0_signsAt 32 = .ok (.iaload, 1) := by decide +kernel
theorem dX0_signsAt_33 : decode cX0_signsAt 33 = .ok (.i2l, 1) := by decide +kernel
theorem dX0_signsAt_34 : decode cX0_signsAt 34 = .ok (.aload_n 0, 1) := by decide +kernel
theorem dX0_signsAt_35 : decode cX0_signsAt 35 = .ok (.getfield 9, 3) := by decide +kernel
theorem dX0_signsAt_38 : decode cX0_signsAt 38 = .ok (.iload 4, 2) := by decide +kernel
theorem dX0_signsAt_40 : decode cX0_signsAt 40 = .ok (.iaload, 1) := by decide +kernel
theorem dX0_signsAt_41 : decode cX0_signsAt 41 = .ok (.i2l, 1) := by decide +kernel
theorem dX0_signsAt_42 : decode cX0_signsAt 42 = .ok (.iload_n 1, 1) := by decide +kernel
theorem dX0_signsAt_43 : decode cX0_signsAt 43 = .ok (.invokestatic 28, 3) := by decide +kernel
theorem dX0_signsAt_46 : decode cX0_signsAt 46 = .ok (.imul, 1) := by decide +kernel
theorem dX0_signsAt_47 : decode cX0_signsAt 47 = .ok (.istore_n 2, 1) := by decide +kernel
theorem dX0_signsAt_48 : decode cX0_signsAt 48 = .ok (.iinc 4 1, 3) := by decide +kernel
theorem dX0_signsAt_51 : decode cX0_signsAt 51 = .ok (.goto (-34), 3) := by decide +kernel
theorem dX0_signsAt_54 : decode cX0_signsAt 54 = .ok (.iinc 3 1, 3) := by decide +kernel
theorem dX0_signsAt_57 : decode cX0_signsAt 57 = .ok (.goto (-53), 3) := by decide +kernel
theorem dX0_signsAt_60 : decode cX0_signsAt 60 = .ok (.iload_n 2, 1) := by decide +kernel
theorem dX0_signsAt_61 : decode cX0_signsAt 61 = .ok (.ireturn, 1) := by decide +kernel
theorem dX0_goesAt_0 : decode cX0_goesAt 0 = .ok (.iload_n 1, 1) := by decide +kernel
theorem dX0_goesAt_1 : decode cX0_goesAt 1 = .ok (.ifCond .ne 26, 3) := by decide +kernel
theorem dX0_goesAt_4 : decode cX0_goesAt 4 = .ok (.aload_n 0, 1) := by decide +kernel
theorem dX0_goesAt_5 : decode cX0_goesAt 5 = .ok (.invokevirtual 32, 3) := by decide +kernel
theorem dX0_goesAt_8 : decode cX0_goesAt 8 = .ok (.istore_n 2, 1) := by decide +kernel
theorem dX0_goesAt_9 : decode cX0_goesAt 9 = .ok (.iload_n 2, 1) := by decide +kernel
theorem dX0_goesAt_10 : decode cX0_goesAt 10 = .ok (.ifCond .le 15, 3) := by decide +kernel
theorem dX0_goesAt_13 : decode cX0_goesAt 13 = .ok (.iload_n 2, 1) := by decide +kernel
theorem dX0_goesAt_14 : decode cX0_goesAt 14 = .ok (.aload_n 0, 1) := by decide +kernel
theorem dX0_goesAt_15 : decode cX0_goesAt 15 = .ok (.getfield 15, 3) := by decide +kernel
theorem dX0_goesAt_18 : decode cX0_goesAt 18 = .ok (.if_icmp .ge 7, 3) := by decide +kernel
theorem dX0_goesAt_21 : decode cX0_goesAt 21 = .ok (.iconst 1, 1) := by decide +kernel
theorem dX0_goesAt_22 : decode cX0_goesAt 22 = .ok (.goto 4, 3) := by decide +kernel
theorem dX0_goesAt_25 : decode cX0_goesAt 25 = .ok (.iconst 0, 1) := by decide +kernel
theorem dX0_goesAt_26 : decode cX0_goesAt 26 = .ok (.ireturn, 1) := by decide +kernel
theorem dX0_goesAt_27 : decode cX0_goesAt 27 = .ok (.aload_n 0, 1) := by decide +kernel
theorem dX0_goesAt_28 : decode cX0_goesAt 28 = .ok (.getfield 15, 3) := by decide +kernel
theorem dX0_goesAt_31 : decode cX0_goesAt 31 = .ok (.tableswitch 102 1 4 #[29, 31, 41, 67], 29) := by decide +kernel
theorem dX0_goesAt_60 : decode cX0_goesAt 60 = .ok (.iconst 0, 1) := by decide +kernel
theorem dX0_goesAt_61 : decode cX0_goesAt 61 = .ok (.ireturn, 1) := by decide +kernel
theorem dX0_goesAt_62 : decode cX0_goesAt 62 = .ok (.aload_n 0, 1) := by decide +kernel
theorem dX0_goesAt_63 : decode cX0_goesAt 63 = .ok (.invokevirtual 19, 3) := by decide +kernel
theorem dX0_goesAt_66 : decode cX0_goesAt 66 = .ok (.lneg, 1) := by decide +kernel
theorem dX0_goesAt_67 : decode cX0_goesAt 67 = .ok (.iload_n 1, 1) := by decide +kernel
theorem dX0_goesAt_68 : decode cX0_goesAt 68 = .ok (.invokestatic 36, 3) := by decide +kernel
theorem dX0_goesAt_71 : decode cX0_goesAt 71 = .ok (.ireturn, 1) := by decide +kernel
theorem dX0_goesAt_72 : decode cX0_goesAt 72 = .ok (.aload_n 0, 1) := by decide +kernel
theorem dX0_goesAt_73 : decode cX0_goesAt 73 = .ok (.iload_n 1, 1) := by decide +kernel
theorem dX0_goesAt_74 : decode cX0_goesAt 74 = .ok (.invokevirtual 40, 3) := by decide +kernel
theorem dX0_goesAt_77 : decode cX0_goesAt 77 = .ok (.ldc2_w 44, 3) := by decide +kernel
theorem dX0_goesAt_80 : decode cX0_goesAt 80 = .ok (.aload_n 0, 1) := by decide +kernel
theorem dX0_goesAt_81 : decode cX0_goesAt 81 = .ok (.invokevirtual 19, 3) := by decide +kernel
theorem dX0_goesAt_84 : decode cX0_goesAt 84 = .ok (.lneg, 1) := by decide +kernel
theorem dX0_goesAt_85 : decode cX0_goesAt 85 = .ok (.iload_n 1, 1) := by decide +kernel
theorem dX0_goesAt_86 : decode cX0_goesAt 86 = .ok (.invokestatic 28, 3) := by decide +kernel
theorem dX0_goesAt_89 : decode cX0_goesAt 89 = .ok (.if_icmp .ne 7, 3) := by decide +kernel
theorem dX0_goesAt_92 : decode cX0_goesAt 92 = .ok (.iconst 1, 1) := by decide +kernel
theorem dX0_goesAt_93 : decode cX0_goesAt 93 = .ok (.goto 4, 3) := by decide +kernel
theorem dX0_goesAt_96 : decode cX0_goesAt 96 = .ok (.iconst 0, 1) := by decide +kernel
theorem dX0_goesAt_97 : decode cX0_goesAt 97 = .ok (.ireturn, 1) := by decide +kernel
theorem dX0_goesAt_98 : decode cX0_goesAt 98 = .ok (.aload_n 0, 1) := by decide +kernel
theorem dX0_goesAt_99 : decode cX0_goesAt 99 = .ok (.invokevirtual 19, 3) := by decide +kernel
theorem dX0_goesAt_102 : decode cX0_goesAt 102 = .ok (.iload_n 1, 1) := by decide +kernel
theorem dX0_goesAt_103 : decode cX0_goesAt 103 = .ok (.invokestatic 36, 3) := by decide +kernel
theorem dX0_goesAt_106 : decode cX0_goesAt 106 = .ok (.ifCond .eq 21, 3) := by decide +kernel
theorem dX0_goesAt_109 : decode cX0_goesAt 109 = .ok (.aload_n 0, 1) := by decide +kernel
theorem dX0_goesAt_110 : decode cX0_goesAt 110 = .ok (.iload_n 1, 1) := by decide +kernel
theorem dX0_goesAt_111 : decode cX0_goesAt 111 = .ok (.invokevirtual 40, 3) := by decide +kernel
theorem dX0_goesAt_114 : decode cX0_goesAt 114 = .ok (.ldc2_w 44, 3) := by decide +kernel
theorem dX0_goesAt_117 : decode cX0_goesAt 117 = .ok (.ldc2_w 44, 3) := by decide +kernel
theorem dX0_goesAt_120 : decode cX0_goesAt 120 = .ok (.iload_n 1, 1) := by decide +kernel
theorem dX0_goesAt_121 : decode cX0_goesAt 121 = .ok (.invokestatic 28, 3) := by decide +kernel
theorem dX0_goesAt_124 : decode cX0_goesAt 124 = .ok (.if_icmp .ne 7, 3) := by decide +kernel
theorem dX0_goesAt_127 : decode cX0_goesAt 127 = .ok (.iconst 1, 1) := by decide +kernel
theorem dX0_goesAt_128 : decode cX0_goesAt 128 = .ok (.goto 4, 3) := by decide +kernel
theorem dX0_goesAt_131 : decode cX0_goesAt 131 = .ok (.iconst 0, 1) := by decide +kernel
theorem dX0_goesAt_132 : decode cX0_goesAt 132 = .ok (.ireturn, 1) := by decide +kernel
theorem dX0_goesAt_133 : decode cX0_goesAt 133 = .ok (.iconst 1, 1) := by decide +kernel
theorem dX0_goesAt_134 : decode cX0_goesAt 134 = .ok (.ireturn, 1) := by decide +kernel
theorem dX0_countBars_0 : decode cX0_countBars 0 = .ok (.iconst 0, 1) := by decide +kernel
theorem dX0_countBars_1 : decode cX0_countBars 1 = .ok (.istore_n 1, 1) := by decide +kernel
theorem dX0_countBars_2 : decode cX0_countBars 2 = .ok (.getstatic 23, 3) := by decide +kernel
theorem dX0_countBars_5 : decode cX0_countBars 5 = .ok (.astore_n 2, 1) := by decide +kernel
theorem dX0_countBars_6 : decode cX0_countBars 6 = .ok (.aload_n 2, 1) := by decide +kernel
theorem dX0_countBars_7 : decode cX0_countBars 7 = .ok (.arraylength, 1) := by decide +kernel
theorem dX0_countBars_8 : decode cX0_countBars 8 = .ok (.istore_n 3, 1) := by decide +kernel
theorem dX0_countBars_9 : decode cX0_countBars 9 = .ok (.iconst 0, 1) := by decide +kernel
theorem dX0_countBars_10 : decode cX0_countBars 10 = .ok (.istore 4, 2) := by decide +kernel
theorem dX0_countBars_12 : decode cX0_countBars 12 = .ok (.iload 4, 2) := by decide +kernel
theorem dX0_countBars_14 : decode cX0_countBars 14 = .ok (.iload_n 3, 1) := by decide +kernel
theorem dX0_countBars_15 : decode cX0_countBars 15 = .ok (.if_icmp .ge 36, 3) := by decide +kernel
theorem dX0_countBars_18 : decode cX0_countBars 18 = .ok (.aload_n 2, 1) := by decide +kernel
theorem dX0_countBars_19 : decode cX0_countBars 19 = .ok (.iload 4, 2) := by decide +kernel
theorem dX0_countBars_21 : decode cX0_countBars 21 = .ok (.iaload, 1) := by decide +kernel
theorem dX0_countBars_22 : decode cX0_countBars 22 = .ok (.istore 5, 2) := by decide +kernel
theorem dX0_countBars_24 : decode cX0_countBars 24 = .ok (.aload_n 0, 1) := by decide +kernel
theorem dX0_countBars_25 : decode cX0_countBars 25 = .ok (.iload 5, 2) := by decide +kernel
theorem dX0_countBars_27 : decode cX0_countBars 27 = .ok (.invokevirtual 46, 3) := by decide +kernel
theorem dX0_countBars_30 : decode cX0_countBars 30 = .ok (.ifCond .eq 15, 3) := by decide +kernel
theorem dX0_countBars_33 : decode cX0_countBars 33 = .ok (.aload_n 0, 1) := by decide +kernel
theorem dX0_countBars_34 : decode cX0_countBars 34 = .ok (.iload 5, 2) := by decide +kernel
theorem dX0_countBars_36 : decode cX0_countBars 36 = .ok (.invokevirtual 50, 3) := by decide +kernel
theorem dX0_countBars_39 : decode cX0_countBars 39 = .ok (.ifCond .ne 6, 3) := by decide +kernel
theorem dX0_countBars_42 : decode cX0_countBars 42 = .ok (.iinc 1 1, 3) := by decide +kernel
theorem dX0_countBars_45 : decode cX0_countBars 45 = .ok (.iinc 4 1, 3) := by decide +kernel
theorem dX0_countBars_48 : decode cX0_countBars 48 = .ok (.goto (-36), 3) := by decide +kernel
theorem dX0_countBars_51 : decode cX0_countBars 51 = .ok (.iload_n 1, 1) := by decide +kernel
theorem dX0_countBars_52 : decode cX0_countBars 52 = .ok (.ireturn, 1) := by decide +kernel
theorem dX0_findBar_0 : decode cX0_findBar 0 = .ok (.iconst 0, 1) := by decide +kernel
theorem dX0_findBar_1 : decode cX0_findBar 1 = .ok (.istore_n 2, 1) := by decide +kernel
theorem dX0_findBar_2 : decode cX0_findBar 2 = .ok (.getstatic 23, 3) := by decide +kernel
theorem dX0_findBar_5 : decode cX0_findBar 5 = .ok (.astore_n 3, 1) := by decide +kernel
theorem dX0_findBar_6 : decode cX0_findBar 6 = .ok (.aload_n 3, 1) := by decide +kernel
theorem dX0_findBar_7 : decode cX0_findBar 7 = .ok (.arraylength, 1) := by decide +kernel
theorem dX0_findBar_8 : decode cX0_findBar 8 = .ok (.istore 4, 2) := by decide +kernel
theorem dX0_findBar_10 : decode cX0_findBar 10 = .ok (.iconst 0, 1) := by decide +kernel
theorem dX0_findBar_11 : decode cX0_findBar 11 = .ok (.istore 5, 2) := by decide +kernel
theorem dX0_findBar_13 : decode cX0_findBar 13 = .ok (.iload 5, 2) := by decide +kernel
theorem dX0_findBar_15 : decode cX0_findBar 15 = .ok (.iload 4, 2) := by decide +kernel
theorem dX0_findBar_17 : decode cX0_findBar 17 = .ok (.if_icmp .ge 44, 3) := by decide +kernel
theorem dX0_findBar_20 : decode cX0_findBar 20 = .ok (.aload_n 3, 1) := by decide +kernel
theorem dX0_findBar_21 : decode cX0_findBar 21 = .ok (.iload 5, 2) := by decide +kernel
theorem dX0_findBar_23 : decode cX0_findBar 23 = .ok (.iaload, 1) := by decide +kernel
theorem dX0_findBar_24 : decode cX0_findBar 24 = .ok (.istore 6, 2) := by decide +kernel
theorem dX0_findBar_26 : decode cX0_findBar 26 = .ok (.aload_n 0, 1) := by decide +kernel
theorem dX0_findBar_27 : decode cX0_findBar 27 = .ok (.iload 6, 2) := by decide +kernel
theorem dX0_findBar_29 : decode cX0_findBar 29 = .ok (.invokevirtual 46, 3) := by decide +kernel
theorem dX0_findBar_32 : decode cX0_findBar 32 = .ok (.ifCond .eq 23, 3) := by decide +kernel
theorem dX0_findBar_35 : decode cX0_findBar 35 = .ok (.aload_n 0, 1) := by decide +kernel
theorem dX0_findBar_36 : decode cX0_findBar 36 = .ok (.iload 6, 2) := by decide +kernel
theorem dX0_findBar_38 : decode cX0_findBar 38 = .ok (.invokevirtual 50, 3) := by decide +kernel
theorem dX0_findBar_41 : decode cX0_findBar 41 = .ok (.ifCond .ne 14, 3) := by decide +kernel
theorem dX0_findBar_44 : decode cX0_findBar 44 = .ok (.iload_n 2, 1) := by decide +kernel
theorem dX0_findBar_45 : decode cX0_findBar 45 = .ok (.iload_n 1, 1) := by decide +kernel
theorem dX0_findBar_46 : decode cX0_findBar 46 = .ok (.if_icmp .ne 6, 3) := by decide +kernel
theorem dX0_findBar_49 : decode cX0_findBar 49 = .ok (.iload 6, 2) := by decide +kernel
theorem dX0_findBar_51 : decode cX0_findBar 51 = .ok (.ireturn, 1) := by decide +kernel
theorem dX0_findBar_52 : decode cX0_findBar 52 = .ok (.iinc 2 1, 3) := by decide +kernel
theorem dX0_findBar_55 : decode cX0_findBar 55 = .ok (.iinc 5 1, 3) := by decide +kernel
theorem dX0_findBar_58 : decode cX0_findBar 58 = .ok (.goto (-45), 3) := by decide +kernel
theorem dX0_findBar_61 : decode cX0_findBar 61 = .ok (.iconst (-1), 1) := by decide +kernel
theorem dX0_findBar_62 : decode cX0_findBar 62 = .ok (.ireturn, 1) := by decide +kernel
theorem dX0_mayBar_0 : decode cX0_mayBar 0 = .ok (.iload_n 1, 1) := by decide +kernel
theorem dX0_mayBar_1 : decode cX0_mayBar 1 = .ok (.ifCond .eq 8, 3) := by decide +kernel
theorem dX0_mayBar_4 : decode cX0_mayBar 4 = .ok (.iload_n 1, 1) := by decide +kernel
theorem dX0_mayBar_5 : decode cX0_mayBar 5 = .ok (.iconst 2, 1) := by decide +kernel
theorem dX0_mayBar_6 : decode cX0_mayBar 6 = .ok (.if_icmp .ne 5, 3) := by decide +kernel
theorem dX0_mayBar_9 : decode cX0_mayBar 9 = .ok (.iconst 1, 1) := by decide +kernel
theorem dX0_mayBar_10 : decode cX0_mayBar 10 = .ok (.ireturn, 1) := by decide +kernel
theorem dX0_mayBar_11 : decode cX0_mayBar 11 = .ok (.iconst 0, 1) := by decide +kernel
theorem dX0_mayBar_12 : decode cX0_mayBar 12 = .ok (.istore_n 2, 1) := by decide +kernel
theorem dX0_mayBar_13 : decode cX0_mayBar 13 = .ok (.iload_n 2, 1) := by decide +kernel
theorem dX0_mayBar_14 : decode cX0_mayBar 14 = .ok (.aload_n 0, 1) := by decide +kernel
theorem dX0_mayBar_15 : decode cX0_mayBar 15 = .ok (.getfield 15, 3) := by decide +kernel
theorem dX0_mayBar_18 : decode cX0_mayBar 18 = .ok (.if_icmp .ge 22, 3) := by decide +kernel
theorem dX0_mayBar_21 : decode cX0_mayBar 21 = .ok (.aload_n 0, 1) := by decide +kernel
theorem dX0_mayBar_22 : decode cX0_mayBar 22 = .ok (.getfield 9, 3) := by decide +kernel
theorem dX0_mayBar_25 : decode cX0_mayBar 25 = .ok (.iload_n 2, 1) := by decide +kernel
theorem dX0_mayBar_26 : decode cX0_mayBar 26 = .ok (.iaload, 1) := by decide +kernel
theorem dX0_mayBar_27 : decode cX0_mayBar 27 = .ok (.iload_n 1, 1) := by decide +kernel
theorem dX0_mayBar_28 : decode cX0_mayBar 28 = .ok (.irem, 1) := by decide +kernel
theorem dX0_mayBar_29 : decode cX0_mayBar 29 = .ok (.ifCond .ne 5, 3) := by decide +kernel
theorem dX0_mayBar_32 : decode cX0_mayBar 32 = .ok (.iconst 1, 1) := by decide +kernel
theorem dX0_mayBar_33 : decode cX0_mayBar 33 = .ok (.ireturn, 1) := by decide +kernel
theorem dX0_mayBar_34 : decode cX0_mayBar 34 = .ok (.iinc 2 1, 3) := by decide +kernel
theorem dX0_mayBar_37 : decode cX0_mayBar 37 = .ok (.goto (-24), 3) := by decide +kernel
theorem dX0_mayBar_40 : decode cX0_mayBar 40 = .ok (.iconst 0, 1) := by decide +kernel
theorem dX0_mayBar_41 : decode cX0_mayBar 41 = .ok (.ireturn, 1) := by decide +kernel
theorem dX0_isAlike_0 : decode cX0_isAlike 0 = .ok (.aload_n 0, 1) := by decide +kernel
theorem dX0_isAlike_1 : decode cX0_isAlike 1 = .ok (.getfield 15, 3) := by decide +kernel
theorem dX0_isAlike_4 : decode cX0_isAlike 4 = .ok (.aload_n 1, 1) := by decide +kernel
theorem dX0_isAlike_5 : decode cX0_isAlike 5 = .ok (.getfield 15, 3) := by decide +kernel
theorem dX0_isAlike_8 : decode cX0_isAlike 8 = .ok (.if_icmp .ne 26, 3) := by decide +kernel
theorem dX0_isAlike_11 : decode cX0_isAlike 11 = .ok (.aload_n 0, 1) := by decide +kernel
theorem dX0_isAlike_12 : decode cX0_isAlike 12 = .ok (.invokevirtual 32, 3) := by decide +kernel
theorem dX0_isAlike_15 : decode cX0_isAlike 15 = .ok (.aload_n 1, 1) := by decide +kernel
theorem dX0_isAlike_16 : decode cX0_isAlike 16 = .ok (.invokevirtual 32, 3) := by decide +kernel
theorem dX0_isAlike_19 : decode cX0_isAlike 19 = .ok (.if_icmp .ne 15, 3) := by decide +kernel
theorem dX0_isAlike_22 : decode cX0_isAlike 22 = .ok (.aload_n 0, 1) := by decide +kernel
theorem dX0_isAlike_23 : decode cX0_isAlike 23 = .ok (.invokevirtual 53, 3) := by decide +kernel
theorem dX0_isAlike_26 : decode cX0_isAlike 26 = .ok (.aload_n 1, 1) := by decide +kernel
theorem dX0_isAlike_27 : decode cX0_isAlike 27 = .ok (.invokevirtual 53, 3) := by decide +kernel
theorem dX0_isAlike_30 : decode cX0_isAlike 30 = .ok (.lcmp, 1) := by decide +kernel
theorem dX0_isAlike_31 : decode cX0_isAlike 31 = .ok (.ifCond .eq 5, 3) := by decide +kernel
theorem dX0_isAlike_34 : decode cX0_isAlike 34 = .ok (.iconst 0, 1) := by decide +kernel
theorem dX0_isAlike_35 : decode cX0_isAlike 35 = .ok (.ireturn, 1) := by decide +kernel
theorem dX0_isAlike_36 : decode cX0_isAlike 36 = .ok (.getstatic 23, 3) := by decide +kernel
theorem dX0_isAlike_39 : decode cX0_isAlike 39 = .ok (.astore_n 2, 1) := by decide +kernel
theorem dX0_isAlike_40 : decode cX0_isAlike 40 = .ok (.aload_n 2, 1) := by decide +kernel
theorem dX0_isAlike_41 : decode cX0_isAlike 41 = .ok (.arraylength, 1) := by decide +kernel
theorem dX0_isAlike_42 : decode cX0_isAlike 42 = .ok (.istore_n 3, 1) := by decide +kernel
theorem dX0_isAlike_43 : decode cX0_isAlike 43 = .ok (.iconst 0, 1) := by decide +kernel
theorem dX0_isAlike_44 : decode cX0_isAlike 44 = .ok (.istore 4, 2) := by decide +kernel
theorem dX0_isAlike_46 : decode cX0_isAlike 46 = .ok (.iload 4, 2) := by decide +kernel
theorem dX0_isAlike_48 : decode cX0_isAlike 48 = .ok (.iload_n 3, 1) := by decide +kernel
theorem dX0_isAlike_49 : decode cX0_isAlike 49 = .ok (.if_icmp .ge 55, 3) := by decide +kernel
theorem dX0_isAlike_52 : decode cX0_isAlike 52 = .ok (.aload_n 2, 1) := by decide +kernel
theorem dX0_isAlike_53 : decode cX0_isAlike 53 = .ok (.iload 4, 2) := by decide +kernel
theorem dX0_isAlike_55 : decode cX0_isAlike 55 = .ok (.iaload, 1) := by decide +kernel
theorem dX0_isAlike_56 : decode cX0_isAlike 56 = .ok (.istore 5, 2) := by decide +kernel
theorem dX0_isAlike_58 : decode cX0_isAlike 58 = .ok (.iload 5, 2) := by decide +kernel
theorem dX0_isAlike_60 : decode cX0_isAlike 60 = .ok (.ifCond .eq 38, 3) := by decide +kernel
theorem dX0_isAlike_63 : decode cX0_isAlike 63 = .ok (.aload_n 0, 1) := by decide +kernel
theorem dX0_isAlike_64 : decode cX0_isAlike 64 = .ok (.iload 5, 2) := by decide +kernel
theorem dX0_isAlike_66 : decode cX0_isAlike 66 = .ok (.invokevirtual 46, 3) := by decide +kernel
theorem dX0_isAlike_69 : decode cX0_isAlike 69 = .ok (.ifCond .ne 12, 3) := by decide +kernel
theorem dX0_isAlike_72 : decode cX0_isAlike 72 = .ok (.aload_n 1, 1) := by decide +kernel
theorem dX0_isAlike_73 : decode cX0_isAlike 73 = .ok (.iload 5, 2) := by decide +kernel
theorem dX0_isAlike_75 : decode cX0_isAlike 75 = .ok (.invokevirtual 46, 3) := by decide +kernel
theorem dX0_isAlike_78 : decode cX0_isAlike 78 = .ok (.ifCond .eq 20, 3) := by decide +kernel
theorem dX0_isAlike_81 : decode cX0_isAlike 81 = .ok (.aload_n 0, 1) := by decide +kernel
theorem dX0_isAlike_82 : decode cX0_isAlike 82 = .ok (.iload 5, 2) := by decide +kernel
theorem dX0_isAlike_84 : decode cX0_isAlike 84 = .ok (.invokevirtual 40, 3) := by decide +kernel
theorem dX0_isAlike_87 : decode cX0_isAlike 87 = .ok (.aload_n 1, 1) := by decide +kernel
theorem dX0_isAlike_88 : decode cX0_isAlike 88 = .ok (.iload 5, 2) := by decide +kernel
theorem dX0_isAlike_90 : decode cX0_isAlike 90 = .ok (.invokevirtual 40, 3) := by decide +kernel
theorem dX0_isAlike_93 : decode cX0_isAlike 93 = .ok (.if_icmp .eq 5, 3) := by decide +kernel
theorem dX0_isAlike_96 : decode cX0_isAlike 96 = .ok (.iconst 0, 1) := by decide +kernel
theorem dX0_isAlike_97 : decode cX0_isAlike 97 = .ok (.ireturn, 1) := by decide +kernel
theorem dX0_isAlike_98 : decode cX0_isAlike 98 = .ok (.iinc 4 1, 3) := by decide +kernel
theorem dX0_isAlike_101 : decode cX0_isAlike 101 = .ok (.goto (-55), 3) := by decide +kernel
theorem dX0_isAlike_104 : decode cX0_isAlike 104 = .ok (.iconst 1, 1) := by decide +kernel
theorem dX0_isAlike_105 : decode cX0_isAlike 105 = .ok (.ireturn, 1) := by decide +kernel
theorem dX0_pairing_0 : decode cX0_pairing 0 = .ok (.aload_n 0, 1) := by decide +kernel
theorem dX0_pairing_1 : decode cX0_pairing 1 = .ok (.getfield 9, 3) := by decide +kernel
theorem dX0_pairing_4 : decode cX0_pairing 4 = .ok (.iconst 0, 1) := by decide +kernel
theorem dX0_pairing_5 : decode cX0_pairing 5 = .ok (.iaload, 1) := by decide +kernel
theorem dX0_pairing_6 : decode cX0_pairing 6 = .ok (.i2l, 1) := by decide +kernel
theorem dX0_pairing_7 : decode cX0_pairing 7 = .ok (.iload_n 1, 1) := by decide +kernel
theorem dX0_pairing_8 : decode cX0_pairing 8 = .ok (.i2l, 1) := by decide +kernel
theorem dX0_pairing_9 : decode cX0_pairing 9 = .ok (.lmul, 1) := by decide +kernel
theorem dX0_pairing_10 : decode cX0_pairing 10 = .ok (.iload 4, 2) := by decide +kernel
theorem dX0_pairing_12 : decode cX0_pairing 12 = .ok (.i2l, 1) := by decide +kernel
theorem dX0_pairing_13 : decode cX0_pairing 13 = .ok (.lmul, 1) := by decide +kernel
theorem dX0_pairing_14 : decode cX0_pairing 14 = .ok (.aload_n 0, 1) := by decide +kernel
theorem dX0_pairing_15 : decode cX0_pairing 15 = .ok (.getfield 9, 3) := by decide +kernel
theorem dX0_pairing_18 : decode cX0_pairing 18 = .ok (.iconst 1, 1) := by decide +kernel
theorem dX0_pairing_19 : decode cX0_pairing 19 = .ok (.iaload, 1) := by decide +kernel
theorem dX0_pairing_20 : decode cX0_pairing 20 = .ok (.i2l, 1) := by decide +kernel
theorem dX0_pairing_21 : decode cX0_pairing 21 = .ok (.iload_n 2, 1) := by decide +kernel
theorem dX0_pairing_22 : decode cX0_pairing 22 = .ok (.i2l, 1) := by decide +kernel
theorem dX0_pairing_23 : decode cX0_pairing 23 = .ok (.lmul, 1) := by decide +kernel
theorem dX0_pairing_24 : decode cX0_pairing 24 = .ok (.iload 5, 2) := by decide +kernel
theorem dX0_pairing_26 : decode cX0_pairing 26 = .ok (.i2l, 1) := by decide +kernel
theorem dX0_pairing_27 : decode cX0_pairing 27 = .ok (.lmul, 1) := by decide +kernel
theorem dX0_pairing_28 : decode cX0_pairing 28 = .ok (.ladd, 1) := by decide +kernel
theorem dX0_pairing_29 : decode cX0_pairing 29 = .ok (.aload_n 0, 1) := by decide +kernel
theorem dX0_pairing_30 : decode cX0_pairing 30 = .ok (.getfield 9, 3) := by decide +kernel
theorem dX0_pairing_33 : decode cX0_pairing 33 = .ok (.iconst 2, 1) := by decide +kernel
theorem dX0_pairing_34 : decode cX0_pairing 34 = .ok (.iaload, 1) := by decide +kernel
theorem dX0_pairing_35 : decode cX0_pairing 35 = .ok (.i2l, 1) := by decide +kernel
theorem dX0_pairing_36 : decode cX0_pairing 36 = .ok (.iload_n 3, 1) := by decide +kernel
theorem dX0_pairing_37 : decode cX0_pairing 37 = .ok (.i2l, 1) := by decide +kernel
theorem dX0_pairing_38 : decode cX0_pairing 38 = .ok (.lmul, 1) := by decide +kernel
theorem dX0_pairing_39 : decode cX0_pairing 39 = .ok (.iload 6, 2) := by decide +kernel
theorem dX0_pairing_41 : decode cX0_pairing 41 = .ok (.i2l, 1) := by decide +kernel
theorem dX0_pairing_42 : decode cX0_pairing 42 = .ok (.lmul, 1) := by decide +kernel
theorem dX0_pairing_43 : decode cX0_pairing 43 = .ok (.ladd, 1) := by decide +kernel
theorem dX0_pairing_44 : decode cX0_pairing 44 = .ok (.lreturn, 1) := by decide +kernel
theorem dX0_thirdFor_0 : decode cX0_thirdFor 0 = .ok (.aload_n 0, 1) := by decide +kernel
theorem dX0_thirdFor_1 : decode cX0_thirdFor 1 = .ok (.getfield 9, 3) := by decide +kernel
theorem dX0_thirdFor_4 : decode cX0_thirdFor 4 = .ok (.iconst 2, 1) := by decide +kernel
theorem dX0_thirdFor_5 : decode cX0_thirdFor 5 = .ok (.iaload, 1) := by decide +kernel
theorem dX0_thirdFor_6 : decode cX0_thirdFor 6 = .ok (.istore_n 3, 1) := by decide +kernel
theorem dX0_thirdFor_7 : decode cX0_thirdFor 7 = .ok (.aload_n 0, 1) := by decide +kernel
theorem dX0_thirdFor_8 : decode cX0_thirdFor 8 = .ok (.getfield 9, 3) := by decide +kernel
theorem dX0_thirdFor_11 : decode cX0_thirdFor 11 = .ok (.iconst 0, 1) := by decide +kernel
theorem dX0_thirdFor_12 : decode cX0_thirdFor 12 = .ok (.iaload, 1) := by decide +kernel
theorem dX0_thirdFor_13 : decode cX0_thirdFor 13 = .ok (.iload_n 1, 1) := by decide +kernel
theorem dX0_thirdFor_14 : decode cX0_thirdFor 14 = .ok (.imul, 1) := by decide +kernel
theorem dX0_thirdFor_15 : decode cX0_thirdFor 15 = .ok (.iload_n 1, 1) := by decide +kernel
theorem dX0_thirdFor_16 : decode cX0_thirdFor 16 = .ok (.imul, 1) := by decide +kernel
theorem dX0_thirdFor_17 : decode cX0_thirdFor 17 = .ok (.aload_n 0, 1) := by decide +kernel
theorem dX0_thirdFor_18 : decode cX0_thirdFor 18 = .ok (.getfield 9, 3) := by decide +kernel
theorem dX0_thirdFor_21 : decode cX0_thirdFor 21 = .ok (.iconst 1, 1) := by decide +kernel
theorem dX0_thirdFor_22 : decode cX0_thirdFor 22 = .ok (.iaload, 1) := by decide +kernel
theorem dX0_thirdFor_23 : decode cX0_thirdFor 23 = .ok (.iload_n 2, 1) := by decide +kernel
theorem dX0_thirdFor_24 : decode cX0_thirdFor 24 = .ok (.imul, 1) := by decide +kernel
theorem dX0_thirdFor_25 : decode cX0_thirdFor 25 = .ok (.iload_n 2, 1) := by decide +kernel
theorem dX0_thirdFor_26 : decode cX0_thirdFor 26 = .ok (.imul, 1) := by decide +kernel
theorem dX0_thirdFor_27 : decode cX0_thirdFor 27 = .ok (.iadd, 1) := by decide +kernel
theorem dX0_thirdFor_28 : decode cX0_thirdFor 28 = .ok (.ineg, 1) := by decide +kernel
theorem dX0_thirdFor_29 : decode cX0_thirdFor 29 = .ok (.istore 4, 2) := by decide +kernel
theorem dX0_thirdFor_31 : decode cX0_thirdFor 31 = .ok (.iload_n 3, 1) := by decide +kernel
theorem dX0_thirdFor_32 : decode cX0_thirdFor 32 = .ok (.ifCond .eq 10, 3) := by decide +kernel
theorem dX0_thirdFor_35 : decode cX0_thirdFor 35 = .ok (.iload 4, 2) := by decide +kernel
theorem dX0_thirdFor_37 : decode cX0_thirdFor 37 = .ok (.iload_n 3, 1) := by decide +kernel
theorem dX0_thirdFor_38 : decode cX0_thirdFor 38 = .ok (.irem, 1) := by decide +kernel
theorem dX0_thirdFor_39 : decode cX0_thirdFor 39 = .ok (.ifCond .eq 5, 3) := by decide +kernel
theorem dX0_thirdFor_42 : decode cX0_thirdFor 42 = .ok (.iconst (-1), 1) := by decide +kernel
theorem dX0_thirdFor_43 : decode cX0_thirdFor 43 = .ok (.ireturn, 1) := by decide +kernel
theorem dX0_thirdFor_44 : decode cX0_thirdFor 44 = .ok (.iload 4, 2) := by decide +kernel
theorem dX0_thirdFor_46 : decode cX0_thirdFor 46 = .ok (.iload_n 3, 1) := by decide +kernel
theorem dX0_thirdFor_47 : decode cX0_thirdFor 47 = .ok (.idiv, 1) := by decide +kernel
theorem dX0_thirdFor_48 : decode cX0_thirdFor 48 = .ok (.istore 5, 2) := by decide +kernel
theorem dX0_thirdFor_50 : decode cX0_thirdFor 50 = .ok (.iload 5, 2) := by decide +kernel
theorem dX0_thirdFor_52 : decode cX0_thirdFor 52 = .ok (.ifCond .lt 11, 3) := by decide +kernel
theorem dX0_thirdFor_55 : decode cX0_thirdFor 55 = .ok (.iload 5, 2) := by decide +kernel
theorem dX0_thirdFor_57 : decode cX0_thirdFor 57 = .ok (.sipush 900, 3) := by decide +kernel
theorem dX0_thirdFor_60 : decode cX0_thirdFor 60 = .ok (.if_icmp .le 5, 3) := by decide +kernel
theorem dX0_thirdFor_63 : decode cX0_thirdFor 63 = .ok (.iconst (-1), 1) := by decide +kernel
theorem dX0_thirdFor_64 : decode cX0_thirdFor 64 = .ok (.ireturn, 1) := by decide +kernel
theorem dX0_thirdFor_65 : decode cX0_thirdFor 65 = .ok (.iconst 0, 1) := by decide +kernel
theorem dX0_thirdFor_66 : decode cX0_thirdFor 66 = .ok (.istore 6, 2) := by decide +kernel
theorem dX0_thirdFor_68 : decode cX0_thirdFor 68 = .ok (.iload 6, 2) := by decide +kernel
theorem dX0_thirdFor_70 : decode cX0_thirdFor 70 = .ok (.bipush 30, 2) := by decide +kernel
theorem dX0_thirdFor_72 : decode cX0_thirdFor 72 = .ok (.if_icmp .gt 22, 3) := by decide +kernel
theorem dX0_thirdFor_75 : decode cX0_thirdFor 75 = .ok (.iload 6, 2) := by decide +kernel
theorem dX0_thirdFor_77 : decode cX0_thirdFor 77 = .ok (.iload 6, 2) := by decide +kernel
theorem dX0_thirdFor_79 : decode cX0_thirdFor 79 = .ok (.imul, 1) := by decide +kernel
theorem dX0_thirdFor_80 : decode cX0_thirdFor 80 = .ok (.iload 5, 2) := by decide +kernel
theorem dX0_thirdFor_82 : decode cX0_thirdFor 82 = .ok (.if_icmp .ne 6, 3) := by decide +kernel
theorem dX0_thirdFor_85 : decode cX0_thirdFor 85 = .ok (.iload 6, 2) := by decide +kernel
theorem dX0_thirdFor_87 : decode cX0_thirdFor 87 = .ok (.ireturn, 1) := by decide +kernel
theorem dX0_thirdFor_88 : decode cX0_thirdFor 88 = .ok (.iinc 6 1, 3) := by decide +kernel
theorem dX0_thirdFor_91 : decode cX0_thirdFor 91 = .ok (.goto (-23), 3) := by decide +kernel
theorem dX0_thirdFor_94 : decode cX0_thirdFor 94 = .ok (.iconst (-1), 1) := by decide +kernel
theorem dX0_thirdFor_95 : decode cX0_thirdFor 95 = .ok (.ireturn, 1) := by decide +kernel
theorem dX1_byKind_0 : decode cX1_byKind 0 = .ok (.iload_n 0, 1) := by decide +kernel
theorem dX1_byKind_1 : decode cX1_byKind 1 = .ok (.lookupswitch 41 #[(0, 27), (1, 34)], 27) := by decide +kernel
theorem dX1_byKind_28 : decode cX1_byKind 28 = .ok (.iload_n 1, 1) := by decide +kernel
theorem dX1_byKind_29 : decode cX1_byKind 29 = .ok (.iload_n 2, 1) := by decide +kernel
theorem dX1_byKind_30 : decode cX1_byKind 30 = .ok (.iload_n 3, 1) := by decide +kernel
theorem dX1_byKind_31 : decode cX1_byKind 31 = .ok (.invokestatic 7, 3) := by decide +kernel
theorem dX1_byKind_34 : decode cX1_byKind 34 = .ok (.ireturn, 1) := by decide +kernel
theorem dX1_byKind_35 : decode cX1_byKind 35 = .ok (.iload_n 1, 1) := by decide +kernel
theorem dX1_byKind_36 : decode cX1_byKind 36 = .ok (.iload_n 2, 1) := by decide +kernel
theorem dX1_byKind_37 : decode cX1_byKind 37 = .ok (.iload_n 3, 1) := by decide +kernel
theorem dX1_byKind_38 : decode cX1_byKind 38 = .ok (.invokestatic 13, 3) := by decide +kernel
theorem dX1_byKind_41 : decode cX1_byKind 41 = .ok (.ireturn, 1) := by decide +kernel
theorem dX1_byKind_42 : decode cX1_byKind 42 = .ok (.iload_n 1, 1) := by decide +kernel
theorem dX1_byKind_43 : decode cX1_byKind 43 = .ok (.iload_n 2, 1) := by decide +kernel
theorem dX1_byKind_44 : decode cX1_byKind 44 = .ok (.iload_n 3, 1) := by decide +kernel
theorem dX1_byKind_45 : decode cX1_byKind 45 = .ok (.invokestatic 16, 3) := by decide +kernel
theorem dX1_byKind_48 : decode cX1_byKind 48 = .ok (.ireturn, 1) := by decide +kernel
theorem dX1_great_0 : decode cX1_great 0 = .ok (.iload_n 0, 1) := by decide +kernel
theorem dX1_great_1 : decode cX1_great 1 = .ok (.invokestatic 19, 3) := by decide +kernel
theorem dX1_great_4 : decode cX1_great 4 = .ok (.iload_n 1, 1) := by decide +kernel
theorem dX1_great_5 : decode cX1_great 5 = .ok (.invokestatic 19, 3) := by decide +kernel
theorem dX1_great_8 : decode cX1_great 8 = .ok (.iload_n 2, 1) := by decide +kernel
theorem dX1_great_9 : decode cX1_great 9 = .ok (.invokestatic 19, 3) := by decide +kernel
theorem dX1_great_12 : decode cX1_great 12 = .ok (.invokestatic 25, 3) := by decide +kernel
theorem dX1_great_15 : decode cX1_great 15 = .ok (.invokestatic 25, 3) := by decide +kernel
theorem dX1_great_18 : decode cX1_great 18 = .ok (.ireturn, 1) := by decide +kernel
theorem dX1_wide_0 : decode cX1_wide 0 = .ok (.iload_n 0, 1) := by decide +kernel
theorem dX1_wide_1 : decode cX1_wide 1 = .ok (.iload_n 1, 1) := by decide +kernel
theorem dX1_wide_2 : decode cX1_wide 2 = .ok (.iload_n 2, 1) := by decide +kernel
theorem dX1_wide_3 : decode cX1_wide 3 = .ok (.invokestatic 7, 3) := by decide +kernel
theorem dX1_wide_6 : decode cX1_wide 6 = .ok (.iload_n 0, 1) := by decide +kernel
theorem dX1_wide_7 : decode cX1_wide 7 = .ok (.invokestatic 19, 3) := by decide +kernel
theorem dX1_wide_10 : decode cX1_wide 10 = .ok (.iadd, 1) := by decide +kernel
theorem dX1_wide_11 : decode cX1_wide 11 = .ok (.iload_n 1, 1) := by decide +kernel
theorem dX1_wide_12 : decode cX1_wide 12 = .ok (.invokestatic 19, 3) := by decide +kernel
theorem dX1_wide_15 : decode cX1_wide 15 = .ok (.iadd, 1) := by decide +kernel
theorem dX1_wide_16 : decode cX1_wide 16 = .ok (.iload_n 2, 1) := by decide +kernel
theorem dX1_wide_17 : decode cX1_wide 17 = .ok (.invokestatic 19, 3) := by decide +kernel
theorem dX1_wide_20 : decode cX1_wide 20 = .ok (.iadd, 1) := by decide +kernel
theorem dX1_wide_21 : decode cX1_wide 21 = .ok (.ireturn, 1) := by decide +kernel
theorem dX1_odd_0 : decode cX1_odd 0 = .ok (.iload_n 0, 1) := by decide +kernel
theorem dX1_odd_1 : decode cX1_odd 1 = .ok (.iload_n 1, 1) := by decide +kernel
theorem dX1_odd_2 : decode cX1_odd 2 = .ok (.iload_n 2, 1) := by decide +kernel
theorem dX1_odd_3 : decode cX1_odd 3 = .ok (.invokestatic 13, 3) := by decide +kernel
theorem dX1_odd_6 : decode cX1_odd 6 = .ok (.bipush 7, 2) := by decide +kernel
theorem dX1_odd_8 : decode cX1_odd 8 = .ok (.iload_n 0, 1) := by decide +kernel
theorem dX1_odd_9 : decode cX1_odd 9 = .ok (.iconst 1, 1) := by decide +kernel
theorem dX1_odd_10 : decode cX1_odd 10 = .ok (.iand, 1) := by decide +kernel
theorem dX1_odd_11 : decode cX1_odd 11 = .ok (.iload_n 1, 1) := by decide +kernel
theorem dX1_odd_12 : decode cX1_odd 12 = .ok (.iconst 1, 1) := by decide +kernel
theorem dX1_odd_13 : decode cX1_odd 13 = .ok (.iand, 1) := by decide +kernel
theorem dX1_odd_14 : decode cX1_odd 14 = .ok (.iadd, 1) := by decide +kernel
theorem dX1_odd_15 : decode cX1_odd 15 = .ok (.iload_n 2, 1) := by decide +kernel
theorem dX1_odd_16 : decode cX1_odd 16 = .ok (.iconst 1, 1) := by decide +kernel
theorem dX1_odd_17 : decode cX1_odd 17 = .ok (.iand, 1) := by decide +kernel
theorem dX1_odd_18 : decode cX1_odd 18 = .ok (.iadd, 1) := by decide +kernel
theorem dX1_odd_19 : decode cX1_odd 19 = .ok (.imul, 1) := by decide +kernel
theorem dX1_odd_20 : decode cX1_odd 20 = .ok (.iadd, 1) := by decide +kernel
theorem dX1_odd_21 : decode cX1_odd 21 = .ok (.ireturn, 1) := by decide +kernel
theorem dX2_isPlace_0 : decode cX2_isPlace 0 = .ok (.getstatic 7, 3) := by decide +kernel
theorem dX2_isPlace_3 : decode cX2_isPlace 3 = .ok (.astore_n 1, 1) := by decide +kernel
theorem dX2_isPlace_4 : decode cX2_isPlace 4 = .ok (.aload_n 1, 1) := by decide +kernel
theorem dX2_isPlace_5 : decode cX2_isPlace 5 = .ok (.arraylength, 1) := by decide +kernel
theorem dX2_isPlace_6 : decode cX2_isPlace 6 = .ok (.istore_n 2, 1) := by decide +kernel
theorem dX2_isPlace_7 : decode cX2_isPlace 7 = .ok (.iconst 0, 1) := by decide +kernel
theorem dX2_isPlace_8 : decode cX2_isPlace 8 = .ok (.istore_n 3, 1) := by decide +kernel
theorem dX2_isPlace_9 : decode cX2_isPlace 9 = .ok (.iload_n 3, 1) := by decide +kernel
theorem dX2_isPlace_10 : decode cX2_isPlace 10 = .ok (.iload_n 2, 1) := by decide +kernel
theorem dX2_isPlace_11 : decode cX2_isPlace 11 = .ok (.if_icmp .ge 22, 3) := by decide +kernel
theorem dX2_isPlace_14 : decode cX2_isPlace 14 = .ok (.aload_n 1, 1) := by decide +kernel
theorem dX2_isPlace_15 : decode cX2_isPlace 15 = .ok (.iload_n 3, 1) := by decide +kernel
theorem dX2_isPlace_16 : decode cX2_isPlace 16 = .ok (.iaload, 1) := by decide +kernel
theorem dX2_isPlace_17 : decode cX2_isPlace 17 = .ok (.istore 4, 2) := by decide +kernel
theorem dX2_isPlace_19 : decode cX2_isPlace 19 = .ok (.iload 4, 2) := by decide +kernel
theorem dX2_isPlace_21 : decode cX2_isPlace 21 = .ok (.iload_n 0, 1) := by decide +kernel
theorem dX2_isPlace_22 : decode cX2_isPlace 22 = .ok (.if_icmp .ne 5, 3) := by decide +kernel
theorem dX2_isPlace_25 : decode cX2_isPlace 25 = .ok (.iconst 1, 1) := by decide +kernel
theorem dX2_isPlace_26 : decode cX2_isPlace 26 = .ok (.ireturn, 1) := by decide +kernel
theorem dX2_isPlace_27 : decode cX2_isPlace 27 = .ok (.iinc 3 1, 3) := by decide +kernel
theorem dX2_isPlace_30 : decode cX2_isPlace 30 = .ok (.goto (-21), 3) := by decide +kernel
theorem dX2_isPlace_33 : decode cX2_isPlace 33 = .ok (.iconst 0, 1) := by decide +kernel
theorem dX2_isPlace_34 : decode cX2_isPlace 34 = .ok (.ireturn, 1) := by decide +kernel
theorem dX2_signAt_0 : decode cX2_signAt 0 = .ok (.iload 4, 2) := by decide +kernel
theorem dX2_signAt_2 : decode cX2_signAt 2 = .ok (.ifCond .ne 21, 3) := by decide +kernel
theorem dX2_signAt_5 : decode cX2_signAt 5 = .ok (.lload_n 0, 1) := by decide +kernel
theorem dX2_signAt_6 : decode cX2_signAt 6 = .ok (.lconst 0, 1) := by decide +kernel
theorem dX2_signAt_7 : decode cX2_signAt 7 = .ok (.lcmp, 1) := by decide +kernel
theorem dX2_signAt_8 : decode cX2_signAt 8 = .ok (.ifCond .ge 13, 3) := by decide +kernel
theorem dX2_signAt_11 : decode cX2_signAt 11 = .ok (.lload_n 2, 1) := by decide +kernel
theorem dX2_signAt_12 : decode cX2_signAt 12 = .ok (.lconst 0, 1) := by decide +kernel
theorem dX2_signAt_13 : decode cX2_signAt 13 = .ok (.lcmp, 1) := by decide +kernel
theorem dX2_signAt_14 : decode cX2_signAt 14 = .ok (.ifCond .ge 7, 3) := by decide +kernel
theorem dX2_signAt_17 : decode cX2_signAt 17 = .ok (.iconst (-1), 1) := by decide +kernel
theorem dX2_signAt_18 : decode cX2_signAt 18 = .ok (.goto 4, 3) := by decide +kernel
theorem dX2_signAt_21 : decode cX2_signAt 21 = .ok (.iconst 1, 1) := by decide +kernel
theorem dX2_signAt_22 : decode cX2_signAt 22 = .ok (.ireturn, 1) := by decide +kernel
theorem dX2_signAt_23 : decode cX2_signAt 23 = .ok (.lload_n 0, 1) := by decide +kernel
theorem dX2_signAt_24 : decode cX2_signAt 24 = .ok (.iload 4, 2) := by decide +kernel
theorem dX2_signAt_26 : decode cX2_signAt 26 = .ok (.invokestatic 13, 3) := by decide +kernel
theorem dX2_signAt_29 : decode cX2_signAt 29 = .ok (.istore 5, 2) := by decide +kernel
theorem dX2_signAt_31 : decode cX2_signAt 31 = .ok (.lload_n 2, 1) := by decide +kernel
theorem dX2_signAt_32 : decode cX2_signAt 32 = .ok (.iload 4, 2) := by decide +kernel
theorem dX2_signAt_34 : decode cX2_signAt 34 = .ok (.invokestatic 13, 3) := by decide +kernel
theorem dX2_signAt_37 : decode cX2_signAt 37 = .ok (.istore 6, 2) := by decide +kernel
theorem dX2_signAt_39 : decode cX2_signAt 39 = .ok (.lload_n 0, 1) := by decide +kernel
theorem dX2_signAt_40 : decode cX2_signAt 40 = .ok (.iload 4, 2) := by decide +kernel
theorem dX2_signAt_42 : decode cX2_signAt 42 = .ok (.invokestatic 17, 3) := by decide +kernel
theorem dX2_signAt_45 : decode cX2_signAt 45 = .ok (.lstore 7, 2) := by decide +kernel
theorem dX2_signAt_47 : decode cX2_signAt 47 = .ok (.lload_n 2, 1) := by decide +kernel
theorem dX2_signAt_48 : decode cX2_signAt 48 = .ok (.iload 4, 2) := by decide +kernel
theorem dX2_signAt_50 : decode cX2_signAt 50 = .ok (.invokestatic 17, 3) := by decide +kernel
theorem dX2_signAt_53 : decode cX2_signAt 53 = .ok (.lstore 9, 2) := by decide +kernel
theorem dX2_signAt_55 : decode cX2_signAt 55 = .ok (.iload 4, 2) := by decide +kernel
theorem dX2_signAt_57 : decode cX2_signAt 57 = .ok (.iconst 2, 1) := by decide +kernel
theorem dX2_signAt_58 : decode cX2_signAt 58 = .ok (.if_icmp .ne 27, 3) := by decide +kernel
theorem dX2_signAt_61 : decode cX2_signAt 61 = .ok (.lload 7, 2) := by decide +kernel
theorem dX2_signAt_63 : decode cX2_signAt 63 = .ok (.invokestatic 21, 3) := by decide +kernel
theorem dX2_signAt_66 : decode cX2_signAt 66 = .ok (.ifCond .eq 15, 3) := by decide +kernel
theorem dX2_signAt_69 : decode cX2_signAt 69 = .ok (.lload 9, 2) := by decide +kernel
theorem dX2_signAt_71 : decode cX2_signAt 71 = .ok (.invokestatic 21, 3) := by decide +kernel
theorem dX2_signAt_74 : decode cX2_signAt 74 = .ok (.ifCond .eq 7, 3) := by decide +kernel
theorem dX2_signAt_77 : decode cX2_signAt 77 = .ok (.iconst 1, 1) := by decide +kernel
theorem dX2_signAt_78 : decode cX2_signAt 78 = .ok (.goto 31, 3) := by decide +kernel
theorem dX2_signAt_81 : decode cX2_signAt 81 = .ok (.iconst 0, 1) := by decide +kernel
theorem dX2_signAt_82 : decode cX2_signAt 82 = .ok (.goto 27, 3) := by decide +kernel
theorem dX2_signAt_85 : decode cX2_signAt 85 = .ok (.iload 5, 2) := by decide +kernel
theorem dX2_signAt_87 : decode cX2_signAt 87 = .ok (.ifCond .eq 21, 3) := by decide +kernel
theorem dX2_signAt_90 : decode cX2_signAt 90 = .ok (.iload 6, 2) := by decide +kernel
theorem dX2_signAt_92 : decode cX2_signAt 92 = .ok (.ifCond .eq 16, 3) := by decide +kernel
theorem dX2_signAt_95 : decode cX2_signAt 95 = .ok (.iload 4, 2) := by decide +kernel
theorem dX2_signAt_97 : decode cX2_signAt 97 = .ok (.i2l, 1) := by decide +kernel
theorem dX2_signAt_98 : decode cX2_signAt 98 = .ok (.invokestatic 21, 3) := by decide +kernel
theorem dX2_signAt_101 : decode cX2_signAt 101 = .ok (.ifCond .eq 7, 3) := by decide +kernel
theorem dX2_signAt_104 : decode cX2_signAt 104 = .ok (.iconst 1, 1) := by decide +kernel
theorem dX2_signAt_105 : decode cX2_signAt 105 = .ok (.goto 4, 3) := by decide +kernel
theorem dX2_signAt_108 : decode cX2_signAt 108 = .ok (.iconst 0, 1) := by decide +kernel
theorem dX2_signAt_109 : decode cX2_signAt 109 = .ok (.istore 11, 2) := by decide +kernel
theorem dX2_signAt_111 : decode cX2_signAt 111 = .ok (.iload 5, 2) := by decide +kernel
theorem dX2_signAt_113 : decode cX2_signAt 113 = .ok (.ifCond .eq 25, 3) := by decide +kernel
theorem dX2_signAt_116 : decode cX2_signAt 116 = .ok (.lload 9, 2) := by decide +kernel
theorem dX2_signAt_118 : decode cX2_signAt 118 = .ok (.iload 4, 2) := by decide +kernel
theorem dX2_signAt_120 : decode cX2_signAt 120 = .ok (.invokestatic 25, 3) := by decide +kernel
theorem dX2_signAt_123 : decode cX2_signAt 123 = .ok (.ifCond .eq 15, 3) := by decide +kernel
theorem dX2_signAt_126 : decode cX2_signAt 126 = .ok (.iload 11, 2) := by decide +kernel
theorem dX2_signAt_128 : decode cX2_signAt 128 = .ok (.ifCond .ne 7, 3) := by decide +kernel
theorem dX2_signAt_131 : decode cX2_signAt 131 = .ok (.iconst 1, 1) := by decide +kernel
theorem dX2_signAt_132 : decode cX2_signAt 132 = .ok (.goto 4, 3) := by decide +kernel
theorem dX2_signAt_135 : decode cX2_signAt 135 = .ok (.iconst 0, 1) := by decide +kernel
theorem dX2_signAt_136 : decode cX2_signAt 136 = .ok (.istore 11, 2) := by decide +kernel
theorem dX2_signAt_138 : decode cX2_signAt 138 = .ok (.iload 6, 2) := by decide +kernel
theorem dX2_signAt_140 : decode cX2_signAt 140 = .ok (.ifCond .eq 25, 3) := by decide +kernel
theorem dX2_signAt_143 : decode cX2_signAt 143 = .ok (.lload 7, 2) := by decide +kernel
theorem dX2_signAt_145 : decode cX2_signAt 145 = .ok (.iload 4, 2) := by decide +kernel
theorem dX2_signAt_147 : decode cX2_signAt 147 = .ok (.invokestatic 25, 3) := by decide +kernel
theorem dX2_signAt_150 : decode cX2_signAt 150 = .ok (.ifCond .eq 15, 3) := by decide +kernel
theorem dX2_signAt_153 : decode cX2_signAt 153 = .ok (.iload 11, 2) := by decide +kernel
theorem dX2_signAt_155 : decode cX2_signAt 155 = .ok (.ifCond .ne 7, 3) := by decide +kernel
theorem dX2_signAt_158 : decode cX2_signAt 158 = .ok (.iconst 1, 1) := by decide +kernel
theorem dX2_signAt_159 : decode cX2_signAt 159 = .ok (.goto 4, 3) := by decide +kernel
theorem dX2_signAt_162 : decode cX2_signAt 162 = .ok (.iconst 0, 1) := by decide +kernel
theorem dX2_signAt_163 : decode cX2_signAt 163 = .ok (.istore 11, 2) := by decide +kernel
theorem dX2_signAt_165 : decode cX2_signAt 165 = .ok (.iload 11, 2) := by decide +kernel
theorem dX2_signAt_167 : decode cX2_signAt 167 = .ok (.ifCond .eq 7, 3) := by decide +kernel
theorem dX2_signAt_170 : decode cX2_signAt 170 = .ok (.iconst (-1), 1) := by decide +kernel
theorem dX2_signAt_171 : decode cX2_signAt 171 = .ok (.goto 4, 3) := by decide +kernel
theorem dX2_signAt_174 : decode cX2_signAt 174 = .ok (.iconst 1, 1) := by decide +kernel
theorem dX2_signAt_175 : decode cX2_signAt 175 = .ok (.ireturn, 1) := by decide +kernel
theorem dX2_isSquareAtPrime_0 : decode cX2_isSquareAtPrime 0 = .ok (.lload_n 0, 1) := by decide +kernel
theorem dX2_isSquareAtPrime_1 : decode cX2_isSquareAtPrime 1 = .ok (.iload_n 2, 1) := by decide +kernel
theorem dX2_isSquareAtPrime_2 : decode cX2_isSquareAtPrime 2 = .ok (.invokestatic 13, 3) := by decide +kernel
theorem dX2_isSquareAtPrime_5 : decode cX2_isSquareAtPrime 5 = .ok (.ifCond .eq 5, 3) := by decide +kernel
theorem dX2_isSquareAtPrime_8 : decode cX2_isSquareAtPrime 8 = .ok (.iconst 0, 1) := by decide +kernel
theorem dX2_isSquareAtPrime_9 : decode cX2_isSquareAtPrime 9 = .ok (.ireturn, 1) := by decide +kernel
theorem dX2_isSquareAtPrime_10 : decode cX2_isSquareAtPrime 10 = .ok (.lload_n 0, 1) := by decide +kernel
theorem dX2_isSquareAtPrime_11 : decode cX2_isSquareAtPrime 11 = .ok (.iload_n 2, 1) := by decide +kernel
theorem dX2_isSquareAtPrime_12 : decode cX2_isSquareAtPrime 12 = .ok (.invokestatic 17, 3) := by decide +kernel
theorem dX2_isSquareAtPrime_15 : decode cX2_isSquareAtPrime 15 = .ok (.lstore_n 3, 1) := by decide +kernel
theorem dX2_isSquareAtPrime_16 : decode cX2_isSquareAtPrime 16 = .ok (.iload_n 2, 1) := by decide +kernel
theorem dX2_isSquareAtPrime_17 : decode cX2_isSquareAtPrime 17 = .ok (.iconst 2, 1) := by decide +kernel
theorem dX2_isSquareAtPrime_18 : decode cX2_isSquareAtPrime 18 = .ok (.if_icmp .ne 21, 3) := by decide +kernel
theorem dX2_isSquareAtPrime_21 : decode cX2_isSquareAtPrime 21 = .ok (.lload_n 3, 1) := by decide +kernel
theorem dX2_isSquareAtPrime_22 : decode cX2_isSquareAtPrime 22 = .ok (.ldc2_w 28, 3) := by decide +kernel
theorem dX2_isSquareAtPrime_25 : decode cX2_isSquareAtPrime 25 = .ok (.land, 1) := by decide +kernel
theorem dX2_isSquareAtPrime_26 : decode cX2_isSquareAtPrime 26 = .ok (.lconst 1, 1) := by decide +kernel
theorem dX2_isSquareAtPrime_27 : decode cX2_isSquareAtPrime 27 = .ok (.lcmp, 1) := by decide +kernel
theorem dX2_isSquareAtPrime_28 : decode cX2_isSquareAtPrime 28 = .ok (.ifCond .ne 7, 3) := by decide +kernel
theorem dX2_isSquareAtPrime_31 : decode cX2_isSquareAtPrime 31 = .ok (.iconst 1, 1) := by decide +kernel
theorem dX2_isSquareAtPrime_32 : decode cX2_isSquareAtPrime 32 = .ok (.goto 12, 3) := by decide +kernel
theorem dX2_isSquareAtPrime_35 : decode cX2_isSquareAtPrime 35 = .ok (.iconst 0, 1) := by decide +kernel
theorem dX2_isSquareAtPrime_36 : decode cX2_isSquareAtPrime 36 = .ok (.goto 8, 3) := by decide +kernel
theorem dX2_isSquareAtPrime_39 : decode cX2_isSquareAtPrime 39 = .ok (.lload_n 3, 1) := by decide +kernel
theorem dX2_isSquareAtPrime_40 : decode cX2_isSquareAtPrime 40 = .ok (.iload_n 2, 1) := by decide +kernel
theorem dX2_isSquareAtPrime_41 : decode cX2_isSquareAtPrime 41 = .ok (.invokestatic 30, 3) := by decide +kernel
theorem dX2_isSquareAtPrime_44 : decode cX2_isSquareAtPrime 44 = .ok (.ireturn, 1) := by decide +kernel
theorem dX2_isThreeOfFour_0 : decode cX2_isThreeOfFour 0 = .ok (.lload_n 0, 1) := by decide +kernel
theorem dX2_isThreeOfFour_1 : decode cX2_isThreeOfFour 1 = .ok (.ldc2_w 33, 3) := by decide +kernel
theorem dX2_isThreeOfFour_4 : decode cX2_isThreeOfFour 4 = .ok (.land, 1) := by decide +kernel
theorem dX2_isThreeOfFour_5 : decode cX2_isThreeOfFour 5 = .ok (.ldc2_w 33, 3) := by decide +kernel
theorem dX2_isThreeOfFour_8 : decode cX2_isThreeOfFour 8 = .ok (.lcmp, 1) := by decide +kernel
theorem dX2_isThreeOfFour_9 : decode cX2_isThreeOfFour 9 = .ok (.ifCond .ne 7, 3) := by decide +kernel
theorem dX2_isThreeOfFour_12 : decode cX2_isThreeOfFour 12 = .ok (.iconst 1, 1) := by decide +kernel
theorem dX2_isThreeOfFour_13 : decode cX2_isThreeOfFour 13 = .ok (.goto 4, 3) := by decide +kernel
theorem dX2_isThreeOfFour_16 : decode cX2_isThreeOfFour 16 = .ok (.iconst 0, 1) := by decide +kernel
theorem dX2_isThreeOfFour_17 : decode cX2_isThreeOfFour 17 = .ok (.ireturn, 1) := by decide +kernel
theorem dX2_isTurning_0 : decode cX2_isTurning 0 = .ok (.iload_n 2, 1) := by decide +kernel
theorem dX2_isTurning_1 : decode cX2_isTurning 1 = .ok (.iconst 2, 1) := by decide +kernel
theorem dX2_isTurning_2 : decode cX2_isTurning 2 = .ok (.if_icmp .ne 33, 3) := by decide +kernel
theorem dX2_isTurning_5 : decode cX2_isTurning 5 = .ok (.lload_n 0, 1) := by decide +kernel
theorem dX2_isTurning_6 : decode cX2_isTurning 6 = .ok (.ldc2_w 28, 3) := by decide +kernel
theorem dX2_isTurning_9 : decode cX2_isTurning 9 = .ok (.land, 1) := by decide +kernel
theorem dX2_isTurning_10 : decode cX2_isTurning 10 = .ok (.ldc2_w 33, 3) := by decide +kernel
theorem dX2_isTurning_13 : decode cX2_isTurning 13 = .ok (.lcmp, 1) := by decide +kernel
theorem dX2_isTurning_14 : decode cX2_isTurning 14 = .ok (.ifCond .eq 15, 3) := by decide +kernel
theorem dX2_isTurning_17 : decode cX2_isTurning 17 = .ok (.lload_n 0, 1) := by decide +kernel
theorem dX2_isTurning_18 : decode cX2_isTurning 18 = .ok (.ldc2_w 28, 3) := by decide +kernel
theorem dX2_isTurning_21 : decode cX2_isTurning 21 = .ok (.land, 1) := by decide +kernel
theorem dX2_isTurning_22 : decode cX2_isTurning 22 = .ok (.ldc2_w 35, 3) := by decide +kernel
theorem dX2_isTurning_25 : decode cX2_isTurning 25 = .ok (.lcmp, 1) := by decide +kernel
theorem dX2_isTurning_26 : decode cX2_isTurning 26 = .ok (.ifCond .ne 7, 3) := by decide +kernel
theorem dX2_isTurning_29 : decode cX2_isTurning 29 = .ok (.iconst 1, 1) := by decide +kernel
theorem dX2_isTurning_30 : decode cX2_isTurning 30 = .ok (.goto 4, 3) := by decide +kernel
theorem dX2_isTurning_33 : decode cX2_isTurning 33 = .ok (.iconst 0, 1) := by decide +kernel
theorem dX2_isTurning_34 : decode cX2_isTurning 34 = .ok (.ireturn, 1) := by decide +kernel
theorem dX2_isTurning_35 : decode cX2_isTurning 35 = .ok (.lload_n 0, 1) := by decide +kernel
theorem dX2_isTurning_36 : decode cX2_isTurning 36 = .ok (.iload_n 2, 1) := by decide +kernel
theorem dX2_isTurning_37 : decode cX2_isTurning 37 = .ok (.invokestatic 30, 3) := by decide +kernel
theorem dX2_isTurning_40 : decode cX2_isTurning 40 = .ok (.ifCond .ne 7, 3) := by decide +kernel
theorem dX2_isTurning_43 : decode cX2_isTurning 43 = .ok (.iconst 1, 1) := by decide +kernel
theorem dX2_isTurning_44 : decode cX2_isTurning 44 = .ok (.goto 4, 3) := by decide +kernel
theorem dX2_isTurning_47 : decode cX2_isTurning 47 = .ok (.iconst 0, 1) := by decide +kernel
theorem dX2_isTurning_48 : decode cX2_isTurning 48 = .ok (.ireturn, 1) := by decide +kernel
theorem dX2_hasOddPower_0 : decode cX2_hasOddPower 0 = .ok (.iconst 0, 1) := by decide +kernel
theorem dX2_hasOddPower_1 : decode cX2_hasOddPower 1 = .ok (.istore_n 3, 1) := by decide +kernel
theorem dX2_hasOddPower_2 : decode cX2_hasOddPower 2 = .ok (.lload_n 0, 1) := by decide +kernel
theorem dX2_hasOddPower_3 : decode cX2_hasOddPower 3 = .ok (.lstore 4, 2) := by decide +kernel
theorem dX2_hasOddPower_5 : decode cX2_hasOddPower 5 = .ok (.iconst 0, 1) := by decide +kernel
theorem dX2_hasOddPower_6 : decode cX2_hasOddPower 6 = .ok (.istore 6, 2) := by decide +kernel
theorem dX2_hasOddPower_8 : decode cX2_hasOddPower 8 = .ok (.iload 6, 2) := by decide +kernel
theorem dX2_hasOddPower_10 : decode cX2_hasOddPower 10 = .ok (.bipush 64, 2) := by decide +kernel
theorem dX2_hasOddPower_12 : decode cX2_hasOddPower 12 = .ok (.if_icmp .ge 48, 3) := by decide +kernel
theorem dX2_hasOddPower_15 : decode cX2_hasOddPower 15 = .ok (.iload_n 2, 1) := by decide +kernel
theorem dX2_hasOddPower_16 : decode cX2_hasOddPower 16 = .ok (.iconst 1, 1) := by decide +kernel
theorem dX2_hasOddPower_17 : decode cX2_hasOddPower 17 = .ok (.if_icmp .le 43, 3) := by decide +kernel
theorem dX2_hasOddPower_20 : decode cX2_hasOddPower 20 = .ok (.lload 4, 2) := by decide +kernel
theorem dX2_hasOddPower_22 : decode cX2_hasOddPower 22 = .ok (.lconst 0, 1) := by decide +kernel
theorem dX2_hasOddPower_23 : decode cX2_hasOddPower 23 = .ok (.lcmp, 1) := by decide +kernel
theorem dX2_hasOddPower_24 : decode cX2_hasOddPower 24 = .ok (.ifCond .eq 36, 3) := by decide +kernel
theorem dX2_hasOddPower_27 : decode cX2_hasOddPower 27 = .ok (.lload 4, 2) := by decide +kernel
theorem dX2_hasOddPower_29 : decode cX2_hasOddPower 29 = .ok (.iload_n 2, 1) := by decide +kernel
theorem dX2_hasOddPower_30 : decode cX2_hasOddPower 30 = .ok (.i2l, 1) := by decide +kernel
theorem dX2_hasOddPower_31 : decode cX2_hasOddPower 31 = .ok (.lrem, 1) := by decide +kernel
theorem dX2_hasOddPower_32 : decode cX2_hasOddPower 32 = .ok (.lconst 0, 1) := by decide +kernel
theorem dX2_hasOddPower_33 : decode cX2_hasOddPower 33 = .ok (.lcmp, 1) := by decide +kernel
theorem dX2_hasOddPower_34 : decode cX2_hasOddPower 34 = .ok (.ifCond .ne 26, 3) := by decide +kernel
theorem dX2_hasOddPower_37 : decode cX2_hasOddPower 37 = .ok (.lload 4, 2) := by decide +kernel
theorem dX2_hasOddPower_39 : decode cX2_hasOddPower 39 = .ok (.iload_n 2, 1) := by decide +kernel
theorem dX2_hasOddPower_40 : decode cX2_hasOddPower 40 = .ok (.i2l, 1) := by decide +kernel
theorem dX2_hasOddPower_41 : decode cX2_hasOddPower 41 = .ok (.ldiv, 1) := by decide +kernel
theorem dX2_hasOddPower_42 : decode cX2_hasOddPower 42 = .ok (.lstore 4, 2) := by decide +kernel
theorem dX2_hasOddPower_44 : decode cX2_hasOddPower 44 = .ok (.iload_n 3, 1) := by decide +kernel
theorem dX2_hasOddPower_45 : decode cX2_hasOddPower 45 = .ok (.ifCond .ne 7, 3) := by decide +kernel
theorem dX2_hasOddPower_48 : decode cX2_hasOddPower 48 = .ok (.iconst 1, 1) := by decide +kernel
theorem dX2_hasOddPower_49 : decode cX2_hasOddPower 49 = .ok (.goto 4, 3) := by decide +kernel
theorem dX2_hasOddPower_52 : decode cX2_hasOddPower 52 = .ok (.iconst 0, 1) := by decide +kernel
theorem dX2_hasOddPower_53 : decode cX2_hasOddPower 53 = .ok (.istore_n 3, 1) := by decide +kernel
theorem dX2_hasOddPower_54 : decode cX2_hasOddPower 54 = .ok (.iinc 6 1, 3) := by decide +kernel
theorem dX2_hasOddPower_57 : decode cX2_hasOddPower 57 = .ok (.goto (-49), 3) := by decide +kernel
theorem dX2_hasOddPower_60 : decode cX2_hasOddPower 60 = .ok (.iload_n 3, 1) := by decide +kernel
theorem dX2_hasOddPower_61 : decode cX2_hasOddPower 61 = .ok (.ireturn, 1) := by decide +kernel
theorem dX2_unit_0 : decode cX2_unit 0 = .ok (.lload_n 0, 1) := by decide +kernel
theorem dX2_unit_1 : decode cX2_unit 1 = .ok (.lstore_n 3, 1) := by decide +kernel
theorem dX2_unit_2 : decode cX2_unit 2 = .ok (.iconst 0, 1) := by decide +kernel
theorem dX2_unit_3 : decode cX2_unit 3 = .ok (.istore 5, 2) := by decide +kernel
theorem dX2_unit_5 : decode cX2_unit 5 = .ok (.iload 5, 2) := by decide +kernel
theorem dX2_unit_7 : decode cX2_unit 7 = .ok (.bipush 64, 2) := by decide +kernel
theorem dX2_unit_9 : decode cX2_unit 9 = .ok (.if_icmp .ge 34, 3) := by decide +kernel
theorem dX2_unit_12 : decode cX2_unit 12 = .ok (.iload_n 2, 1) := by decide +kernel
theorem dX2_unit_13 : decode cX2_unit 13 = .ok (.iconst 1, 1) := by decide +kernel
theorem dX2_unit_14 : decode cX2_unit 14 = .ok (.if_icmp .le 29, 3) := by decide +kernel
theorem dX2_unit_17 : decode cX2_unit 17 = .ok (.lload_n 3, 1) := by decide +kernel
theorem dX2_unit_18 : decode cX2_unit 18 = .ok (.lconst 0, 1) := by decide +kernel
theorem dX2_unit_19 : decode cX2_unit 19 = .ok (.lcmp, 1) := by decide +kernel
theorem dX2_unit_20 : decode cX2_unit 20 = .ok (.ifCond .eq 23, 3) := by decide +kernel
theorem dX2_unit_23 : decode cX2_unit 23 = .ok (.lload_n 3, 1) := by decide +kernel
theorem dX2_unit_24 : decode cX2_unit 24 = .ok (.iload_n 2, 1) := by decide +kernel
theorem dX2_unit_25 : decode cX2_unit 25 = .ok (.i2l, 1) := by decide +kernel
theorem dX2_unit_26 : decode cX2_unit 26 = .ok (.lrem, 1) := by decide +kernel
theorem dX2_unit_27 : decode cX2_unit 27 = .ok (.lconst 0, 1) := by decide +kernel
theorem dX2_unit_28 : decode cX2_unit 28 = .ok (.lcmp, 1) := by decide +kernel
theorem dX2_unit_29 : decode cX2_unit 29 = .ok (.ifCond .ne 14, 3) := by decide +kernel
theorem dX2_unit_32 : decode cX2_unit 32 = .ok (.lload_n 3, 1) := by decide +kernel
theorem dX2_unit_33 : decode cX2_unit 33 = .ok (.iload_n 2, 1) := by decide +kernel
theorem dX2_unit_34 : decode cX2_unit 34 = .ok (.i2l, 1) := by decide +kernel
theorem dX2_unit_35 : decode cX2_unit 35 = .ok (.ldiv, 1) := by decide +kernel
theorem dX2_unit_36 : decode cX2_unit 36 = .ok (.lstore_n 3, 1) := by decide +kernel
theorem dX2_unit_37 : decode cX2_unit 37 = .ok (.iinc 5 1, 3) := by decide +kernel
theorem dX2_unit_40 : decode cX2_unit 40 = .ok (.goto (-35), 3) := by decide +kernel
theorem dX2_unit_43 : decode cX2_unit 43 = .ok (.lload_n 3, 1) := by decide +kernel
theorem dX2_unit_44 : decode cX2_unit 44 = .ok (.lreturn, 1) := by decide +kernel
theorem dX2_isResidue_0 : decode cX2_isResidue 0 = .ok (.iload_n 2, 1) := by decide +kernel
theorem dX2_isResidue_1 : decode cX2_isResidue 1 = .ok (.iconst 3, 1) := by decide +kernel
theorem dX2_isResidue_2 : decode cX2_isResidue 2 = .ok (.if_icmp .ge 5, 3) := by decide +kernel
theorem dX2_isResidue_5 : decode cX2_isResidue 5 = .ok (.iconst 1, 1) := by decide +kernel
theorem dX2_isResidue_6 : decode cX2_isResidue 6 = .ok (.ireturn, 1) := by decide +kernel
theorem dX2_isResidue_7 : decode cX2_isResidue 7 = .ok (.lload_n 0, 1) := by decide +kernel
theorem dX2_isResidue_8 : decode cX2_isResidue 8 = .ok (.iload_n 2, 1) := by decide +kernel
theorem dX2_isResidue_9 : decode cX2_isResidue 9 = .ok (.i2l, 1) := by decide +kernel
theorem dX2_isResidue_10 : decode cX2_isResidue 10 = .ok (.lrem, 1) := by decide +kernel
theorem dX2_isResidue_11 : decode cX2_isResidue 11 = .ok (.l2i, 1) := by decide +kernel
theorem dX2_isResidue_12 : decode cX2_isResidue 12 = .ok (.istore_n 3, 1) := by decide +kernel
theorem dX2_isResidue_13 : decode cX2_isResidue 13 = .ok (.iload_n 3, 1) := by decide +kernel
theorem dX2_isResidue_14 : decode cX2_isResidue 14 = .ok (.ifCond .ge 9, 3) := by decide +kernel
theorem dX2_isResidue_17 : decode cX2_isResidue 17 = .ok (.iload_n 3, 1) := by decide +kernel
theorem dX2_isResidue_18 : decode cX2_isResidue 18 = .ok (.iload_n 2, 1) := by decide +kernel
theorem dX2_isResidue_19 : decode cX2_isResidue 19 = .ok (.iadd, 1) := by decide +kernel
theorem dX2_isResidue_20 : decode cX2_isResidue 20 = .ok (.goto 4, 3) := by decide +kernel
theorem dX2_isResidue_23 : decode cX2_isResidue 23 = .ok (.iload_n 3, 1) := by decide +kernel
theorem dX2_isResidue_24 : decode cX2_isResidue 24 = .ok (.istore 4, 2) := by decide +kernel
theorem dX2_isResidue_26 : decode cX2_isResidue 26 = .ok (.iconst 1, 1) := by decide +kernel
theorem dX2_isResidue_27 : decode cX2_isResidue 27 = .ok (.istore 5, 2) := by decide +kernel
theorem dX2_isResidue_29 : decode cX2_isResidue 29 = .ok (.iload_n 2, 1) := by decide +kernel
theorem dX2_isResidue_30 : decode cX2_isResidue 30 = .ok (.iconst 1, 1) := by decide +kernel
theorem dX2_isResidue_31 : decode cX2_isResidue 31 = .ok (.isub, 1) := by decide +kernel
theorem dX2_isResidue_32 : decode cX2_isResidue 32 = .ok (.iconst 2, 1) := by decide +kernel
theorem dX2_isResidue_33 : decode cX2_isResidue 33 = .ok (.idiv, 1) := by decide +kernel
theorem dX2_isResidue_34 : decode cX2_isResidue 34 = .ok (.istore 6, 2) := by decide +kernel
theorem dX2_isResidue_36 : decode cX2_isResidue 36 = .ok (.iload 6, 2) := by decide +kernel
theorem dX2_isResidue_38 : decode cX2_isResidue 38 = .ok (.ifCond .le 38, 3) := by decide +kernel
theorem dX2_isResidue_41 : decode cX2_isResidue 41 = .ok (.iload 6, 2) := by decide +kernel
theorem dX2_isResidue_43 : decode cX2_isResidue 43 = .ok (.iconst 1, 1) := by decide +kernel
theorem dX2_isResidue_44 : decode cX2_isResidue 44 = .ok (.iand, 1) := by decide +kernel
theorem dX2_isResidue_45 : decode cX2_isResidue 45 = .ok (.iconst 1, 1) := by decide +kernel
theorem dX2_isResidue_46 : decode cX2_isResidue 46 = .ok (.if_icmp .ne 12, 3) := by decide +kernel
theorem dX2_isResidue_49 : decode cX2_isResidue 49 = .ok (.iload 5, 2) := by decide +kernel
theorem dX2_isResidue_51 : decode cX2_isResidue 51 = .ok (.iload 4, 2) := by decide +kernel
theorem dX2_isResidue_53 : decode cX2_isResidue 53 = .ok (.imul, 1) := by decide +kernel
theorem dX2_isResidue_54 : decode cX2_isResidue 54 = .ok (.iload_n 2, 1) := by decide +kernel
theorem dX2_isResidue_55 : decode cX2_isResidue 55 = .ok (.irem, 1) := by decide +kernel
theorem dX2_isResidue_56 : decode cX2_isResidue 56 = .ok (.istore 5, 2) := by decide +kernel
theorem dX2_isResidue_58 : decode cX2_isResidue 58 = .ok (.iload 4, 2) := by decide +kernel
theorem dX2_isResidue_60 : decode cX2_isResidue 60 = .ok (.iload 4, 2) := by decide +kernel
theorem dX2_isResidue_62 : decode cX2_isResidue 62 = .ok (.imul, 1) := by decide +kernel
theorem dX2_isResidue_63 : decode cX2_isResidue 63 = .ok (.iload_n 2, 1) := by decide +kernel
theorem dX2_isResidue_64 : decode cX2_isResidue 64 = .ok (.irem, 1) := by decide +kernel
theorem dX2_isResidue_65 : decode cX2_isResidue 65 = .ok (.istore 4, 2) := by decide +kernel
theorem dX2_isResidue_67 : decode cX2_isResidue 67 = .ok (.iload 6, 2) := by decide +kernel
theorem dX2_isResidue_69 : decode cX2_isResidue 69 = .ok (.iconst 1, 1) := by decide +kernel
theorem dX2_isResidue_70 : decode cX2_isResidue 70 = .ok (.ishr, 1) := by decide +kernel
theorem dX2_isResidue_71 : decode cX2_isResidue 71 = .ok (.istore 6, 2) := by decide +kernel
theorem dX2_isResidue_73 : decode cX2_isResidue 73 = .ok (.goto (-37), 3) := by decide +kernel
theorem dX2_isResidue_76 : decode cX2_isResidue 76 = .ok (.iload 5, 2) := by decide +kernel
theorem dX2_isResidue_78 : decode cX2_isResidue 78 = .ok (.iconst 1, 1) := by decide +kernel
theorem dX2_isResidue_79 : decode cX2_isResidue 79 = .ok (.if_icmp .ne 7, 3) := by decide +kernel
theorem dX2_isResidue_82 : decode cX2_isResidue 82 = .ok (.iconst 1, 1) := by decide +kernel
theorem dX2_isResidue_83 : decode cX2_isResidue 83 = .ok (.goto 4, 3) := by decide +kernel
theorem dX2_isResidue_86 : decode cX2_isResidue 86 = .ok (.iconst 0, 1) := by decide +kernel
theorem dX2_isResidue_87 : decode cX2_isResidue 87 = .ok (.ireturn, 1) := by decide +kernel
theorem dX3_init_0 : decode cX3_init 0 = .ok (.aload_n 0, 1) := by decide +kernel
theorem dX3_init_1 : decode cX3_init 1 = .ok (.invokespecial 3, 3) := by decide +kernel
theorem dX3_init_4 : decode cX3_init 4 = .ok (.return_, 1) := by decide +kernel
theorem dX3_run_0 : decode cX3_run 0 = .ok (.aload_n 0, 1) := by decide +kernel
theorem dX3_run_1 : decode cX3_run 1 = .ok (.iconst 0, 1) := by decide +kernel
theorem dX3_run_2 : decode cX3_run 2 = .ok (.putfield 9, 3) := by decide +kernel
theorem dX3_run_5 : decode cX3_run 5 = .ok (.iconst 0, 1) := by decide +kernel
theorem dX3_run_6 : decode cX3_run 6 = .ok (.istore_n 3, 1) := by decide +kernel
theorem dX3_run_7 : decode cX3_run 7 = .ok (.iload_n 3, 1) := by decide +kernel
theorem dX3_run_8 : decode cX3_run 8 = .ok (.bipush 30, 2) := by decide +kernel
theorem dX3_run_10 : decode cX3_run 10 = .ok (.if_icmp .gt 66, 3) := by decide +kernel
theorem dX3_run_13 : decode cX3_run 13 = .ok (.bipush (-30), 2) := by decide +kernel
theorem dX3_run_15 : decode cX3_run 15 = .ok (.istore 4, 2) := by decide +kernel
theorem dX3_run_17 : decode cX3_run 17 = .ok (.iload 4, 2) := by decide +kernel
theorem dX3_run_19 : decode cX3_run 19 = .ok (.bipush 30, 2) := by decide +kernel
theorem dX3_run_21 : decode cX3_run 21 = .ok (.if_icmp .gt 49, 3) := by decide +kernel
theorem dX3_run_24 : decode cX3_run 24 = .ok (.aload_n 1, 1) := by decide +kernel
theorem dX3_run_25 : decode cX3_run 25 = .ok (.iload_n 3, 1) := by decide +kernel
theorem dX3_run_26 : decode cX3_run 26 = .ok (.iload 4, 2) := by decide +kernel
theorem dX3_run_28 : decode cX3_run 28 = .ok (.invokevirtual 15, 3) := by decide +kernel
theorem dX3_run_31 : decode cX3_run 31 = .ok (.istore 5, 2) := by decide +kernel
theorem dX3_run_33 : decode cX3_run 33 = .ok (.iload 5, 2) := by decide +kernel
theorem dX3_run_35 : decode cX3_run 35 = .ok (.ifCond .le 14, 3) := by decide +kernel
theorem dX3_run_38 : decode cX3_run 38 = .ok (.aload_n 0, 1) := by decide +kernel
theorem dX3_run_39 : decode cX3_run 39 = .ok (.iload_n 2, 1) := by decide +kernel
theorem dX3_run_40 : decode cX3_run 40 = .ok (.iload_n 3, 1) := by decide +kernel
theorem dX3_run_41 : decode cX3_run 41 = .ok (.iload 4, 2) := by decide +kernel
theorem dX3_run_43 : decode cX3_run 43 = .ok (.iload 5, 2) := by decide +kernel
theorem dX3_run_45 : decode cX3_run 45 = .ok (.ineg, 1) := by decide +kernel
theorem dX3_run_46 : decode cX3_run 46 = .ok (.invokevirtual 21, 3) := by decide +kernel
theorem dX3_run_49 : decode cX3_run 49 = .ok (.iload 5, 2) := by decide +kernel
theorem dX3_run_51 : decode cX3_run 51 = .ok (.ifCond .lt 13, 3) := by decide +kernel
theorem dX3_run_54 : decode cX3_run 54 = .ok (.aload_n 0, 1) := by decide +kernel
theorem dX3_run_55 : decode cX3_run 55 = .ok (.iload_n 2, 1) := by decide +kernel
theorem dX3_run_56 : decode cX3_run 56 = .ok (.iload_n 3, 1) := by decide +kernel
theorem dX3_run_57 : decode cX3_run 57 = .ok (.iload 4, 2) := by decide +kernel
theorem dX3_run_59 : decode cX3_run 59 = .ok (.iload 5, 2) := by decide +kernel
theorem dX3_run_61 : decode cX3_run 61 = .ok (.invokevirtual 21, 3) := by decide +kernel
theorem dX3_run_64 : decode cX3_run 64 = .ok (.iinc 4 1, 3) := by decide +kernel
theorem dX3_run_67 : decode cX3_run 67 = .ok (.goto (-50), 3) := by decide +kernel
theorem dX3_run_70 : decode cX3_run 70 = .ok (.iinc 3 1, 3) := by decide +kernel
theorem dX3_run_73 : decode cX3_run 73 = .ok (.goto (-66), 3) := by decide +kernel
theorem dX3_run_76 : decode cX3_run 76 = .ok (.return_, 1) := by decide +kernel
theorem dX3_meet_0 : decode cX3_meet 0 = .ok (.iload_n 2, 1) := by decide +kernel
theorem dX3_meet_1 : decode cX3_meet 1 = .ok (.iload_n 3, 1) := by decide +kernel
theorem dX3_meet_2 : decode cX3_meet 2 = .ok (.iload 4, 2) := by decide +kernel
theorem dX3_meet_4 : decode cX3_meet 4 = .ok (.invokestatic 25, 3) := by decide +kernel
theorem dX3_meet_7 : decode cX3_meet 7 = .ok (.ifCond .ne 4, 3) := by decide +kernel
theorem dX3_meet_10 : decode cX3_meet 10 = .ok (.return_, 1) := by decide +kernel
theorem dX3_meet_11 : decode cX3_meet 11 = .ok (.iload_n 1, 1) := by decide +kernel
theorem dX3_meet_12 : decode cX3_meet 12 = .ok (.iload_n 2, 1) := by decide +kernel
theorem dX3_meet_13 : decode cX3_meet 13 = .ok (.iload_n 3, 1) := by decide +kernel
theorem dX3_meet_14 : decode cX3_meet 14 = .ok (.iload 4, 2) := by decide +kernel
theorem dX3_meet_16 : decode cX3_meet 16 = .ok (.invokestatic 29, 3) := by decide +kernel
theorem dX3_meet_19 : decode cX3_meet 19 = .ok (.istore 5, 2) := by decide +kernel
theorem dX3_meet_21 : decode cX3_meet 21 = .ok (.aload_n 0, 1) := by decide +kernel
theorem dX3_meet_22 : decode cX3_meet 22 = .ok (.getfield 9, 3) := by decide +kernel
theorem dX3_meet_25 : decode cX3_meet 25 = .ok (.ifCond .eq 12, 3) := by decide +kernel
theorem dX3_meet_28 : decode cX3_meet 28 = .ok (.iload 5, 2) := by decide +kernel
theorem dX3_meet_30 : decode cX3_meet 30 = .ok (.aload_n 0, 1) := by decide +kernel
theorem dX3_meet_31 : decode cX3_meet 31 = .ok (.getfield 35, 3) := by decide +kernel
theorem dX3_meet_34 : decode cX3_meet 34 = .ok (.if_icmp .ge 25, 3) := by decide +kernel
theorem dX3_meet_37 : decode cX3_meet 37 = .ok (.aload_n 0, 1) := by decide +kernel
theorem dX3_meet_38 : decode cX3_meet 38 = .ok (.iload 5, 2) := by decide +kernel
theorem dX3_meet_40 : decode cX3_meet 40 = .ok (.putfield 35, 3) := by decide +kernel
theorem dX3_meet_43 : decode cX3_meet 43 = .ok (.aload_n 0, 1) := by decide +kernel
theorem dX3_meet_44 : decode cX3_meet 44 = .ok (.iload_n 2, 1) := by decide +kernel
theorem dX3_meet_45 : decode cX3_meet 45 = .ok (.putfield 38, 3) := by decide +kernel
theorem dX3_meet_48 : decode cX3_meet 48 = .ok (.aload_n 0, 1) := by decide +kernel
theorem dX3_meet_49 : decode cX3_meet 49 = .ok (.iload_n 3, 1) := by decide +kernel
theorem dX3_meet_50 : decode cX3_meet 50 = .ok (.putfield 41, 3) := by decide +kernel
theorem dX3_meet_53 : decode cX3_meet 53 = .ok (.aload_n 0, 1) := by decide +kernel
theorem dX3_meet_54 : decode cX3_meet 54 = .ok (.iload 4, 2) := by decide +kernel
theorem dX3_meet_56 : decode cX3_meet 56 = .ok (.putfield 44, 3) := by decide +kernel
theorem dX3_meet_59 : decode cX3_meet 59 = .ok (.aload_n 0, 1) := by decide +kernel
theorem dX3_meet_60 : decode cX3_meet 60 = .ok (.dup, 1) := by decide +kernel
theorem dX3_meet_61 : decode cX3_meet 61 = .ok (.getfield 9, 3) := by decide +kernel
theorem dX3_meet_64 : decode cX3_meet 64 = .ok (.iconst 1, 1) := by decide +kernel
theorem dX3_meet_65 : decode cX3_meet 65 = .ok (.iadd, 1) := by decide +kernel
theorem dX3_meet_66 : decode cX3_meet 66 = .ok (.putfield 9, 3) := by decide +kernel
theorem dX3_meet_69 : decode cX3_meet 69 = .ok (.return_, 1) := by decide +kernel
theorem dX4_init_0 : decode cX4_init 0 = .ok (.aload_n 0, 1) := by decide +kernel
theorem dX4_init_1 : decode cX4_init 1 = .ok (.invokespecial 1, 3) := by decide +kernel
theorem dX4_init_4 : decode cX4_init 4 = .ok (.aload_n 0, 1) := by decide +kernel
theorem dX4_init_5 : decode cX4_init 5 = .ok (.iconst 4, 1) := by decide +kernel
theorem dX4_init_6 : decode cX4_init 6 = .ok (.anewarray 9, 3) := by decide +kernel
theorem dX4_init_9 : decode cX4_init 9 = .ok (.putfield 11, 3) := by decide +kernel
theorem dX4_init_12 : decode cX4_init 12 = .ok (.iconst 0, 1) := by decide +kernel
theorem dX4_init_13 : decode cX4_init 13 = .ok (.istore_n 1, 1) := by decide +kernel
theorem dX4_init_14 : decode cX4_init 14 = .ok (.iload_n 1, 1) := by decide +kernel
theorem dX4_init_15 : decode cX4_init 15 = .ok (.iconst 4, 1) := by decide +kernel
theorem dX4_init_16 : decode cX4_init 16 = .ok (.if_icmp .ge 22, 3) := by decide +kernel
theorem dX4_init_19 : decode cX4_init 19 = .ok (.aload_n 0, 1) := by decide +kernel
theorem dX4_init_20 : decode cX4_init 20 = .ok (.getfield 11, 3) := by decide +kernel
theorem dX4_init_23 : decode cX4_init 23 = .ok (.iload_n 1, 1) := by decide +kernel
theorem dX4_init_24 : decode cX4_init 24 = .ok (.new 9, 3) := by decide +kernel
theorem dX4_init_27 : decode cX4_init 27 = .ok (.dup, 1) := by decide +kernel
theorem dX4_init_28 : decode cX4_init 28 = .ok (.invokespecial 15, 3) := by decide +kernel
theorem dX4_init_31 : decode cX4_init 31 = .ok (.aastore, 1) := by decide +kernel
theorem dX4_init_32 : decode cX4_init 32 = .ok (.iinc 1 1, 3) := by decide +kernel
theorem dX4_init_35 : decode cX4_init 35 = .ok (.goto (-21), 3) := by decide +kernel
theorem dX4_init_38 : decode cX4_init 38 = .ok (.aload_n 0, 1) := by decide +kernel
theorem dX4_init_39 : decode cX4_init 39 = .ok (.new 9, 3) := by decide +kernel
theorem dX4_init_42 : decode cX4_init 42 = .ok (.dup, 1) := by decide +kernel
theorem dX4_init_43 : decode cX4_init 43 = .ok (.invokespecial 15, 3) := by decide +kernel
theorem dX4_init_46 : decode cX4_init 46 = .ok (.putfield 16, 3) := by decide +kernel
theorem dX4_init_49 : decode cX4_init 49 = .ok (.aload_n 0, 1) := by decide +kernel
theorem dX4_init_50 : decode cX4_init 50 = .ok (.iconst 5, 1) := by decide +kernel
theorem dX4_init_51 : decode cX4_init 51 = .ok (.newarray .int, 2) := by decide +kernel
theorem dX4_init_53 : decode cX4_init 53 = .ok (.putfield 20, 3) := by decide +kernel
theorem dX4_init_56 : decode cX4_init 56 = .ok (.aload_n 0, 1) := by decide +kernel
theorem dX4_init_57 : decode cX4_init 57 = .ok (.new 24, 3) := by decide +kernel
theorem dX4_init_60 : decode cX4_init 60 = .ok (.dup, 1) := by decide +kernel
theorem dX4_init_61 : decode cX4_init 61 = .ok (.invokespecial 26, 3) := by decide +kernel
theorem dX4_init_64 : decode cX4_init 64 = .ok (.putfield 27, 3) := by decide +kernel
theorem dX4_init_67 : decode cX4_init 67 = .ok (.aload_n 0, 1) := by decide +kernel
theorem dX4_init_68 : decode cX4_init 68 = .ok (.lconst 0, 1) := by decide +kernel
theorem dX4_init_69 : decode cX4_init 69 = .ok (.putfield 31, 3) := by decide +kernel
theorem dX4_init_72 : decode cX4_init 72 = .ok (.return_, 1) := by decide +kernel
theorem dX4_free_0 : decode cX4_free 0 = .ok (.iload_n 1, 1) := by decide +kernel
theorem dX4_free_1 : decode cX4_free 1 = .ok (.ldc 35, 2) := by decide +kernel
theorem dX4_free_3 : decode cX4_free 3 = .ok (.invokestatic 36, 3) := by decide +kernel
theorem dX4_free_6 : decode cX4_free 6 = .ok (.ifCond .ne 5, 3) := by decide +kernel
theorem dX4_free_9 : decode cX4_free 9 = .ok (.iconst 0, 1) := by decide +kernel
theorem dX4_free_10 : decode cX4_free 10 = .ok (.ireturn, 1) := by decide +kernel
theorem dX4_free_11 : decode cX4_free 11 = .ok (.sipush 1000, 3) := by decide +kernel
theorem dX4_free_14 : decode cX4_free 14 = .ok (.istore_n 2, 1) := by decide +kernel
theorem dX4_free_15 : decode cX4_free 15 = .ok (.iload_n 2, 1) := by decide +kernel
theorem dX4_free_16 : decode cX4_free 16 = .ok (.iconst 1, 1) := by decide +kernel
theorem dX4_free_17 : decode cX4_free 17 = .ok (.if_icmp .le 23, 3) := by decide +kernel
theorem dX4_free_20 : decode cX4_free 20 = .ok (.iload_n 1, 1) := by decide +kernel
theorem dX4_free_21 : decode cX4_free 21 = .ok (.iload_n 2, 1) := by decide +kernel
theorem dX4_free_22 : decode cX4_free 22 = .ok (.iload_n 2, 1) := by decide +kernel
theorem dX4_free_23 : decode cX4_free 23 = .ok (.imul, 1) := by decide +kernel
theorem dX4_free_24 : decode cX4_free 24 = .ok (.irem, 1) := by decide +kernel
theorem dX4_free_25 : decode cX4_free 25 = .ok (.ifCond .ne 9, 3) := by decide +kernel
theorem dX4_free_28 : decode cX4_free 28 = .ok (.iload_n 1, 1) := by decide +kernel
theorem dX4_free_29 : decode cX4_free 29 = .ok (.iload_n 2, 1) := by decide +kernel
theorem dX4_free_30 : decode cX4_free 30 = .ok (.iload_n 2, 1) := by decide +kernel
theorem dX4_free_31 : decode cX4_free 31 = .ok (.imul, 1) := by decide +kernel
theorem dX4_free_32 : decode cX4_free 32 = .ok (.idiv, 1) := by decide +kernel
theorem dX4_free_33 : decode cX4_free 33 = .ok (.ireturn, 1) := by decide +kernel
theorem dX4_free_34 : decode cX4_free 34 = .ok (.iinc 2 (-1), 3) := by decide +kernel
theorem dX4_free_37 : decode cX4_free 37 = .ok (.goto (-22), 3) := by decide +kernel
theorem dX4_free_40 : decode cX4_free 40 = .ok (.iload_n 1, 1) := by decide +kernel
theorem dX4_free_41 : decode cX4_free 41 = .ok (.ireturn, 1) := by decide +kernel
theorem dX4_sign_0 : decode cX4_sign 0 = .ok (.iload_n 1, 1) := by decide +kernel
theorem dX4_sign_1 : decode cX4_sign 1 = .ok (.ldc 35, 2) := by decide +kernel
theorem dX4_sign_3 : decode cX4_sign 3 = .ok (.invokestatic 36, 3) := by decide +kernel
theorem dX4_sign_6 : decode cX4_sign 6 = .ok (.ifCond .eq 19, 3) := by decide +kernel
theorem dX4_sign_9 : decode cX4_sign 9 = .ok (.iload_n 2, 1) := by decide +kernel
theorem dX4_sign_10 : decode cX4_sign 10 = .ok (.ldc 35, 2) := by decide +kernel
theorem dX4_sign_12 : decode cX4_sign 12 = .ok (.invokestatic 36, 3) := by decide +kernel
theorem dX4_sign_15 : decode cX4_sign 15 = .ok (.ifCond .eq 10, 3) := by decide +kernel
theorem dX4_sign_18 : decode cX4_sign 18 = .ok (.iload_n 3, 1) := by decide +kernel
theorem dX4_sign_19 : decode cX4_sign 19 = .ok (.invokestatic 40, 3) := by decide +kernel
theorem dX4_sign_22 : decode cX4_sign 22 = .ok (.ifCond .ne 6, 3) := by decide +kernel
theorem dX4_sign_25 : decode cX4_sign 25 = .ok (.bipush (-3), 2) := by decide +kernel
theorem dX4_sign_27 : decode cX4_sign 27 = .ok (.ireturn, 1) := by decide +kernel
theorem dX4_sign_28 : decode cX4_sign 28 = .ok (.iload_n 1, 1) := by decide +kernel
theorem dX4_sign_29 : decode cX4_sign 29 = .ok (.i2l, 1) := by decide +kernel
theorem dX4_sign_30 : decode cX4_sign 30 = .ok (.iload_n 2, 1) := by decide +kernel
theorem dX4_sign_31 : decode cX4_sign 31 = .ok (.i2l, 1) := by decide +kernel
theorem dX4_sign_32 : decode cX4_sign 32 = .ok (.iload_n 3, 1) := by decide +kernel
theorem dX4_sign_33 : decode cX4_sign 33 = .ok (.invokestatic 46, 3) := by decide +kernel
theorem dX4_sign_36 : decode cX4_sign 36 = .ok (.ireturn, 1) := by decide +kernel
theorem dX4_odds_0 : decode cX4_odds 0 = .ok (.iload_n 1, 1) := by decide +kernel
theorem dX4_odds_1 : decode cX4_odds 1 = .ok (.sipush 400, 3) := by decide +kernel
theorem dX4_odds_4 : decode cX4_odds 4 = .ok (.invokestatic 36, 3) := by decide +kernel
theorem dX4_odds_7 : decode cX4_odds 7 = .ok (.ifCond .eq 13, 3) := by decide +kernel
theorem dX4_odds_10 : decode cX4_odds 10 = .ok (.iload_n 2, 1) := by decide +kernel
theorem dX4_odds_11 : decode cX4_odds 11 = .ok (.sipush 400, 3) := by decide +kernel
theorem dX4_odds_14 : decode cX4_odds 14 = .ok (.invokestatic 36, 3) := by decide +kernel
theorem dX4_odds_17 : decode cX4_odds 17 = .ok (.ifCond .ne 6, 3) := by decide +kernel
theorem dX4_odds_20 : decode cX4_odds 20 = .ok (.bipush (-3), 2) := by decide +kernel
theorem dX4_odds_22 : decode cX4_odds 22 = .ok (.ireturn, 1) := by decide +kernel
theorem dX4_odds_23 : decode cX4_odds 23 = .ok (.iconst 0, 1) := by decide +kernel
theorem dX4_odds_24 : decode cX4_odds 24 = .ok (.istore_n 3, 1) := by decide +kernel
theorem dX4_odds_25 : decode cX4_odds 25 = .ok (.getstatic 50, 3) := by decide +kernel
theorem dX4_odds_28 : decode cX4_odds 28 = .ok (.astore 4, 2) := by decide +kernel
theorem dX4_odds_30 : decode cX4_odds 30 = .ok (.aload 4, 2) := by decide +kernel
theorem dX4_odds_32 : decode cX4_odds 32 = .ok (.arraylength, 1) := by decide +kernel
theorem dX4_odds_33 : decode cX4_odds 33 = .ok (.istore 5, 2) := by decide +kernel
theorem dX4_odds_35 : decode cX4_odds 35 = .ok (.iconst 0, 1) := by decide +kernel
theorem dX4_odds_36 : decode cX4_odds 36 = .ok (.istore 6, 2) := by decide +kernel
theorem dX4_odds_38 : decode cX4_odds 38 = .ok (.iload 6, 2) := by decide +kernel
theorem dX4_odds_40 : decode cX4_odds 40 = .ok (.iload 5, 2) := by decide +kernel
theorem dX4_odds_42 : decode cX4_odds 42 = .ok (.if_icmp .ge 31, 3) := by decide +kernel
theorem dX4_odds_45 : decode cX4_odds 45 = .ok (.aload 4, 2) := by decide +kernel
theorem dX4_odds_47 : decode cX4_odds 47 = .ok (.iload 6, 2) := by decide +kernel
theorem dX4_odds_49 : decode cX4_odds 49 = .ok (.iaload, 1) := by decide +kernel
theorem dX4_odds_50 : decode cX4_odds 50 = .ok (.istore 7, 2) := by decide +kernel
theorem dX4_odds_52 : decode cX4_odds 52 = .ok (.iload_n 1, 1) := by decide +kernel
theorem dX4_odds_53 : decode cX4_odds 53 = .ok (.i2l, 1) := by decide +kernel
theorem dX4_odds_54 : decode cX4_odds 54 = .ok (.iload_n 2, 1) := by decide +kernel
theorem dX4_odds_55 : decode cX4_odds 55 = .ok (.i2l, 1) := by decide +kernel
theorem dX4_odds_56 : decode cX4_odds 56 = .ok (.iload 7, 2) := by decide +kernel
theorem dX4_odds_58 : decode cX4_odds 58 = .ok (.invokestatic 46, 3) := by decide +kernel
theorem dX4_odds_61 : decode cX4_odds 61 = .ok (.ifCond .ge 6, 3) := by decide +kernel
theorem dX4_odds_64 : decode cX4_odds 64 = .ok (.iinc 3 1, 3) := by decide +kernel
theorem dX4_odds_67 : decode cX4_odds 67 = .ok (.iinc 6 1, 3) := by decide +kernel
theorem dX4_odds_70 : decode cX4_odds 70 = .ok (.goto (-32), 3) := by decide +kernel
theorem dX4_odds_73 : decode cX4_odds 73 = .ok (.iload_n 3, 1) := by decide +kernel
theorem dX4_odds_74 : decode cX4_odds 74 = .ok (.ireturn, 1) := by decide +kernel
theorem dX4_form_0 : decode cX4_form 0 = .ok (.iload_n 1, 1) := by decide +kernel
theorem dX4_form_1 : decode cX4_form 1 = .ok (.invokestatic 53, 3) := by decide +kernel
theorem dX4_form_4 : decode cX4_form 4 = .ok (.ifCond .eq 13, 3) := by decide +kernel
theorem dX4_form_7 : decode cX4_form 7 = .ok (.iload_n 2, 1) := by decide +kernel
theorem dX4_form_8 : decode cX4_form 8 = .ok (.iconst 1, 1) := by decide +kernel
theorem dX4_form_9 : decode cX4_form 9 = .ok (.if_icmp .lt 8, 3) := by decide +kernel
theorem dX4_form_12 : decode cX4_form 12 = .ok (.iload_n 2, 1) := by decide +kernel
theorem dX4_form_13 : decode cX4_form 13 = .ok (.iconst 5, 1) := by decide +kernel
theorem dX4_form_14 : decode cX4_form 14 = .ok (.if_icmp .le 6, 3) := by decide +kernel
theorem dX4_form_17 : decode cX4_form 17 = .ok (.bipush (-3), 2) := by decide +kernel
theorem dX4_form_19 : decode cX4_form 19 = .ok (.ireturn, 1) := by decide +kernel
theorem dX4_form_20 : decode cX4_form 20 = .ok (.aload_n 0, 1) := by decide +kernel
theorem dX4_form_21 : decode cX4_form 21 = .ok (.getfield 20, 3) := by decide +kernel
theorem dX4_form_24 : decode cX4_form 24 = .ok (.iconst 0, 1) := by decide +kernel
theorem dX4_form_25 : decode cX4_form 25 = .ok (.iload_n 3, 1) := by decide +kernel
theorem dX4_form_26 : decode cX4_form 26 = .ok (.iastore, 1) := by decide +kernel
theorem dX4_form_27 : decode cX4_form 27 = .ok (.aload_n 0, 1) := by decide +kernel
theorem dX4_form_28 : decode cX4_form 28 = .ok (.getfield 20, 3) := by decide +kernel
theorem dX4_form_31 : decode cX4_form 31 = .ok (.iconst 1, 1) := by decide +kernel
theorem dX4_form_32 : decode cX4_form 32 = .ok (.iload 4, 2) := by decide +kernel
theorem dX4_form_34 : decode cX4_form 34 = .ok (.iastore, 1) := by decide +kernel
theorem dX4_form_35 : decode cX4_form 35 = .ok (.aload_n 0, 1) := by decide +kernel
theorem dX4_form_36 : decode cX4_form 36 = .ok (.getfield 20, 3) := by decide +kernel
theorem dX4_form_39 : decode cX4_form 39 = .ok (.iconst 2, 1) := by decide +kernel
theorem dX4_form_40 : decode cX4_form 40 = .ok (.iload 5, 2) := by decide +kernel
theorem dX4_form_42 : decode cX4_form 42 = .ok (.iastore, 1) := by decide +kernel
theorem dX4_form_43 : decode cX4_form 43 = .ok (.aload_n 0, 1) := by decide +kernel
theorem dX4_form_44 : decode cX4_form 44 = .ok (.getfield 20, 3) := by decide +kernel
theorem dX4_form_47 : decode cX4_form 47 = .ok (.iconst 3, 1) := by decide +kernel
theorem dX4_form_48 : decode cX4_form 48 = .ok (.iload 6, 2) := by decide +kernel
theorem dX4_form_50 : decode cX4_form 50 = .ok (.iastore, 1) := by decide +kernel
theorem dX4_form_51 : decode cX4_form 51 = .ok (.aload_n 0, 1) := by decide +kernel
theorem dX4_form_52 : decode cX4_form 52 = .ok (.getfield 20, 3) := by decide +kernel
theorem dX4_form_55 : decode cX4_form 55 = .ok (.iconst 4, 1) := by decide +kernel
theorem dX4_form_56 : decode cX4_form 56 = .ok (.iload 7, 2) := by decide +kernel
theorem dX4_form_58 : decode cX4_form 58 = .ok (.iastore, 1) := by decide +kernel
theorem dX4_form_59 : decode cX4_form 59 = .ok (.iconst 0, 1) := by decide +kernel
theorem dX4_form_60 : decode cX4_form 60 = .ok (.istore 8, 2) := by decide +kernel
theorem dX4_form_62 : decode cX4_form 62 = .ok (.iload 8, 2) := by decide +kernel
theorem dX4_form_64 : decode cX4_form 64 = .ok (.iload_n 2, 1) := by decide +kernel
theorem dX4_form_65 : decode cX4_form 65 = .ok (.if_icmp .ge 28, 3) := by decide +kernel
theorem dX4_form_68 : decode cX4_form 68 = .ok (.aload_n 0, 1) := by decide +kernel
theorem dX4_form_69 : decode cX4_form 69 = .ok (.getfield 20, 3) := by decide +kernel
theorem dX4_form_72 : decode cX4_form 72 = .ok (.iload 8, 2) := by decide +kernel
theorem dX4_form_74 : decode cX4_form 74 = .ok (.iaload, 1) := by decide +kernel
theorem dX4_form_75 : decode cX4_form 75 = .ok (.sipush 400, 3) := by decide +kernel
theorem dX4_form_78 : decode cX4_form 78 = .ok (.invokestatic 36, 3) := by decide +kernel
theorem dX4_form_81 : decode cX4_form 81 = .ok (.ifCond .ne 6, 3) := by decide +kernel
theorem dX4_form_84 : decode cX4_form 84 = .ok (.bipush (-3), 2) := by decide +kernel
theorem dX4_form_86 : decode cX4_form 86 = .ok (.ireturn, 1) := by decide +kernel
theorem dX4_form_87 : decode cX4_form 87 = .ok (.iinc 8 1, 3) := by decide +kernel
theorem dX4_form_90 : decode cX4_form 90 = .ok (.goto (-28), 3) := by decide +kernel
theorem dX4_form_93 : decode cX4_form 93 = .ok (.aload_n 0, 1) := by decide +kernel
theorem dX4_form_94 : decode cX4_form 94 = .ok (.getfield 11, 3) := by decide +kernel
theorem dX4_form_97 : decode cX4_form 97 = .ok (.iload_n 1, 1) := by decide +kernel
