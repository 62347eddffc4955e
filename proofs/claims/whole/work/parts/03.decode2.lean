theorem dX5_form_128 : decode cX5_form 128 = .ok (.iconst 1, 1) := by decide +kernel
theorem dX5_form_129 : decode cX5_form 129 = .ok (.iadd, 1) := by decide +kernel
theorem dX5_form_130 : decode cX5_form 130 = .ok (.iload 4, 2) := by decide +kernel
theorem dX5_form_132 : decode cX5_form 132 = .ok (.iastore, 1) := by decide +kernel
theorem dX5_form_133 : decode cX5_form 133 = .ok (.aload_n 0, 1) := by decide +kernel
theorem dX5_form_134 : decode cX5_form 134 = .ok (.getfield 13, 3) := by decide +kernel
theorem dX5_form_137 : decode cX5_form 137 = .ok (.iload 8, 2) := by decide +kernel
theorem dX5_form_139 : decode cX5_form 139 = .ok (.iconst 2, 1) := by decide +kernel
theorem dX5_form_140 : decode cX5_form 140 = .ok (.iadd, 1) := by decide +kernel
theorem dX5_form_141 : decode cX5_form 141 = .ok (.iload 5, 2) := by decide +kernel
theorem dX5_form_143 : decode cX5_form 143 = .ok (.iastore, 1) := by decide +kernel
theorem dX5_form_144 : decode cX5_form 144 = .ok (.aload_n 0, 1) := by decide +kernel
theorem dX5_form_145 : decode cX5_form 145 = .ok (.getfield 13, 3) := by decide +kernel
theorem dX5_form_148 : decode cX5_form 148 = .ok (.iload 8, 2) := by decide +kernel
theorem dX5_form_150 : decode cX5_form 150 = .ok (.iconst 3, 1) := by decide +kernel
theorem dX5_form_151 : decode cX5_form 151 = .ok (.iadd, 1) := by decide +kernel
theorem dX5_form_152 : decode cX5_form 152 = .ok (.iload 6, 2) := by decide +kernel
theorem dX5_form_154 : decode cX5_form 154 = .ok (.iastore, 1) := by decide +kernel
theorem dX5_form_155 : decode cX5_form 155 = .ok (.aload_n 0, 1) := by decide +kernel
theorem dX5_form_156 : decode cX5_form 156 = .ok (.getfield 13, 3) := by decide +kernel
theorem dX5_form_159 : decode cX5_form 159 = .ok (.iload 8, 2) := by decide +kernel
theorem dX5_form_161 : decode cX5_form 161 = .ok (.iconst 4, 1) := by decide +kernel
theorem dX5_form_162 : decode cX5_form 162 = .ok (.iadd, 1) := by decide +kernel
theorem dX5_form_163 : decode cX5_form 163 = .ok (.iload 7, 2) := by decide +kernel
theorem dX5_form_165 : decode cX5_form 165 = .ok (.iastore, 1) := by decide +kernel
theorem dX5_form_166 : decode cX5_form 166 = .ok (.iload_n 2, 1) := by decide +kernel
theorem dX5_form_167 : decode cX5_form 167 = .ok (.ireturn, 1) := by decide +kernel
theorem dX5_at_0 : decode cX5_at 0 = .ok (.aload_n 0, 1) := by decide +kernel
theorem dX5_at_1 : decode cX5_at 1 = .ok (.iconst 0, 1) := by decide +kernel
theorem dX5_at_2 : decode cX5_at 2 = .ok (.putfield 16, 3) := by decide +kernel
theorem dX5_at_5 : decode cX5_at 5 = .ok (.iload_n 1, 1) := by decide +kernel
theorem dX5_at_6 : decode cX5_at 6 = .ok (.invokestatic 63, 3) := by decide +kernel
theorem dX5_at_9 : decode cX5_at 9 = .ok (.ifCond .eq 35, 3) := by decide +kernel
theorem dX5_at_12 : decode cX5_at 12 = .ok (.iload_n 2, 1) := by decide +kernel
theorem dX5_at_13 : decode cX5_at 13 = .ok (.i2l, 1) := by decide +kernel
theorem dX5_at_14 : decode cX5_at 14 = .ok (.lconst 0, 1) := by decide +kernel
theorem dX5_at_15 : decode cX5_at 15 = .ok (.aload_n 0, 1) := by decide +kernel
theorem dX5_at_16 : decode cX5_at 16 = .ok (.getfield 7, 3) := by decide +kernel
theorem dX5_at_19 : decode cX5_at 19 = .ok (.iload_n 1, 1) := by decide +kernel
theorem dX5_at_20 : decode cX5_at 20 = .ok (.iaload, 1) := by decide +kernel
theorem dX5_at_21 : decode cX5_at 21 = .ok (.iconst 1, 1) := by decide +kernel
theorem dX5_at_22 : decode cX5_at 22 = .ok (.isub, 1) := by decide +kernel
theorem dX5_at_23 : decode cX5_at 23 = .ok (.i2l, 1) := by decide +kernel
theorem dX5_at_24 : decode cX5_at 24 = .ok (.invokestatic 24, 3) := by decide +kernel
theorem dX5_at_27 : decode cX5_at 27 = .ok (.ifCond .eq 17, 3) := by decide +kernel
theorem dX5_at_30 : decode cX5_at 30 = .ok (.aload_n 0, 1) := by decide +kernel
theorem dX5_at_31 : decode cX5_at 31 = .ok (.getfield 13, 3) := by decide +kernel
theorem dX5_at_34 : decode cX5_at 34 = .ok (.bipush 6, 2) := by decide +kernel
theorem dX5_at_36 : decode cX5_at 36 = .ok (.iload_n 1, 1) := by decide +kernel
theorem dX5_at_37 : decode cX5_at 37 = .ok (.imul, 1) := by decide +kernel
theorem dX5_at_38 : decode cX5_at 38 = .ok (.iload_n 2, 1) := by decide +kernel
theorem dX5_at_39 : decode cX5_at 39 = .ok (.iadd, 1) := by decide +kernel
theorem dX5_at_40 : decode cX5_at 40 = .ok (.iaload, 1) := by decide +kernel
theorem dX5_at_41 : decode cX5_at 41 = .ok (.goto 4, 3) := by decide +kernel
theorem dX5_at_44 : decode cX5_at 44 = .ok (.iconst 0, 1) := by decide +kernel
theorem dX5_at_45 : decode cX5_at 45 = .ok (.ireturn, 1) := by decide +kernel
theorem dX5_productOf_0 : decode cX5_productOf 0 = .ok (.lconst 1, 1) := by decide +kernel
theorem dX5_productOf_1 : decode cX5_productOf 1 = .ok (.lstore_n 3, 1) := by decide +kernel
theorem dX5_productOf_2 : decode cX5_productOf 2 = .ok (.iconst 0, 1) := by decide +kernel
theorem dX5_productOf_3 : decode cX5_productOf 3 = .ok (.istore 5, 2) := by decide +kernel
theorem dX5_productOf_5 : decode cX5_productOf 5 = .ok (.iload 5, 2) := by decide +kernel
theorem dX5_productOf_7 : decode cX5_productOf 7 = .ok (.iload_n 2, 1) := by decide +kernel
theorem dX5_productOf_8 : decode cX5_productOf 8 = .ok (.if_icmp .ge 25, 3) := by decide +kernel
theorem dX5_productOf_11 : decode cX5_productOf 11 = .ok (.lload_n 3, 1) := by decide +kernel
theorem dX5_productOf_12 : decode cX5_productOf 12 = .ok (.aload_n 0, 1) := by decide +kernel
theorem dX5_productOf_13 : decode cX5_productOf 13 = .ok (.getfield 13, 3) := by decide +kernel
theorem dX5_productOf_16 : decode cX5_productOf 16 = .ok (.bipush 6, 2) := by decide +kernel
theorem dX5_productOf_18 : decode cX5_productOf 18 = .ok (.iload_n 1, 1) := by decide +kernel
theorem dX5_productOf_19 : decode cX5_productOf 19 = .ok (.imul, 1) := by decide +kernel
theorem dX5_productOf_20 : decode cX5_productOf 20 = .ok (.iload 5, 2) := by decide +kernel
theorem dX5_productOf_22 : decode cX5_productOf 22 = .ok (.iadd, 1) := by decide +kernel
theorem dX5_productOf_23 : decode cX5_productOf 23 = .ok (.iaload, 1) := by decide +kernel
theorem dX5_productOf_24 : decode cX5_productOf 24 = .ok (.i2l, 1) := by decide +kernel
theorem dX5_productOf_25 : decode cX5_productOf 25 = .ok (.lmul, 1) := by decide +kernel
theorem dX5_productOf_26 : decode cX5_productOf 26 = .ok (.lstore_n 3, 1) := by decide +kernel
theorem dX5_productOf_27 : decode cX5_productOf 27 = .ok (.iinc 5 1, 3) := by decide +kernel
theorem dX5_productOf_30 : decode cX5_productOf 30 = .ok (.goto (-25), 3) := by decide +kernel
theorem dX5_productOf_33 : decode cX5_productOf 33 = .ok (.lload_n 3, 1) := by decide +kernel
theorem dX5_productOf_34 : decode cX5_productOf 34 = .ok (.lreturn, 1) := by decide +kernel
theorem dX5_isOf_0 : decode cX5_isOf 0 = .ok (.iconst 0, 1) := by decide +kernel
theorem dX5_isOf_1 : decode cX5_isOf 1 = .ok (.istore 4, 2) := by decide +kernel
theorem dX5_isOf_3 : decode cX5_isOf 3 = .ok (.iconst 0, 1) := by decide +kernel
theorem dX5_isOf_4 : decode cX5_isOf 4 = .ok (.istore 5, 2) := by decide +kernel
theorem dX5_isOf_6 : decode cX5_isOf 6 = .ok (.iload 5, 2) := by decide +kernel
theorem dX5_isOf_8 : decode cX5_isOf 8 = .ok (.iload_n 2, 1) := by decide +kernel
theorem dX5_isOf_9 : decode cX5_isOf 9 = .ok (.if_icmp .ge 40, 3) := by decide +kernel
theorem dX5_isOf_12 : decode cX5_isOf 12 = .ok (.iload_n 3, 1) := by decide +kernel
theorem dX5_isOf_13 : decode cX5_isOf 13 = .ok (.ifCond .le 36, 3) := by decide +kernel
theorem dX5_isOf_16 : decode cX5_isOf 16 = .ok (.iload 4, 2) := by decide +kernel
theorem dX5_isOf_18 : decode cX5_isOf 18 = .ok (.aload_n 0, 1) := by decide +kernel
theorem dX5_isOf_19 : decode cX5_isOf 19 = .ok (.getfield 13, 3) := by decide +kernel
theorem dX5_isOf_22 : decode cX5_isOf 22 = .ok (.bipush 6, 2) := by decide +kernel
theorem dX5_isOf_24 : decode cX5_isOf 24 = .ok (.iload_n 1, 1) := by decide +kernel
theorem dX5_isOf_25 : decode cX5_isOf 25 = .ok (.imul, 1) := by decide +kernel
theorem dX5_isOf_26 : decode cX5_isOf 26 = .ok (.iload 5, 2) := by decide +kernel
theorem dX5_isOf_28 : decode cX5_isOf 28 = .ok (.iadd, 1) := by decide +kernel
theorem dX5_isOf_29 : decode cX5_isOf 29 = .ok (.iaload, 1) := by decide +kernel
theorem dX5_isOf_30 : decode cX5_isOf 30 = .ok (.iload_n 3, 1) := by decide +kernel
theorem dX5_isOf_31 : decode cX5_isOf 31 = .ok (.irem, 1) := by decide +kernel
theorem dX5_isOf_32 : decode cX5_isOf 32 = .ok (.ifCond .ne 7, 3) := by decide +kernel
theorem dX5_isOf_35 : decode cX5_isOf 35 = .ok (.iconst 1, 1) := by decide +kernel
theorem dX5_isOf_36 : decode cX5_isOf 36 = .ok (.goto 4, 3) := by decide +kernel
theorem dX5_isOf_39 : decode cX5_isOf 39 = .ok (.iconst 0, 1) := by decide +kernel
theorem dX5_isOf_40 : decode cX5_isOf 40 = .ok (.ior, 1) := by decide +kernel
theorem dX5_isOf_41 : decode cX5_isOf 41 = .ok (.istore 4, 2) := by decide +kernel
theorem dX5_isOf_43 : decode cX5_isOf 43 = .ok (.iinc 5 1, 3) := by decide +kernel
theorem dX5_isOf_46 : decode cX5_isOf 46 = .ok (.goto (-40), 3) := by decide +kernel
theorem dX5_isOf_49 : decode cX5_isOf 49 = .ok (.iload 4, 2) := by decide +kernel
theorem dX5_isOf_51 : decode cX5_isOf 51 = .ok (.ireturn, 1) := by decide +kernel
theorem dX5_freeOf_0 : decode cX5_freeOf 0 = .ok (.aload_n 0, 1) := by decide +kernel
theorem dX5_freeOf_1 : decode cX5_freeOf 1 = .ok (.iload_n 1, 1) := by decide +kernel
theorem dX5_freeOf_2 : decode cX5_freeOf 2 = .ok (.aload_n 0, 1) := by decide +kernel
theorem dX5_freeOf_3 : decode cX5_freeOf 3 = .ok (.getfield 7, 3) := by decide +kernel
theorem dX5_freeOf_6 : decode cX5_freeOf 6 = .ok (.iload_n 1, 1) := by decide +kernel
theorem dX5_freeOf_7 : decode cX5_freeOf 7 = .ok (.iaload, 1) := by decide +kernel
theorem dX5_freeOf_8 : decode cX5_freeOf 8 = .ok (.invokevirtual 68, 3) := by decide +kernel
theorem dX5_freeOf_11 : decode cX5_freeOf 11 = .ok (.lstore_n 2, 1) := by decide +kernel
theorem dX5_freeOf_12 : decode cX5_freeOf 12 = .ok (.iconst 2, 1) := by decide +kernel
theorem dX5_freeOf_13 : decode cX5_freeOf 13 = .ok (.istore 4, 2) := by decide +kernel
theorem dX5_freeOf_15 : decode cX5_freeOf 15 = .ok (.iload 4, 2) := by decide +kernel
theorem dX5_freeOf_17 : decode cX5_freeOf 17 = .ok (.sipush 398, 3) := by decide +kernel
theorem dX5_freeOf_20 : decode cX5_freeOf 20 = .ok (.if_icmp .ge 34, 3) := by decide +kernel
theorem dX5_freeOf_23 : decode cX5_freeOf 23 = .ok (.lload_n 2, 1) := by decide +kernel
theorem dX5_freeOf_24 : decode cX5_freeOf 24 = .ok (.iload 4, 2) := by decide +kernel
theorem dX5_freeOf_26 : decode cX5_freeOf 26 = .ok (.iload 4, 2) := by decide +kernel
theorem dX5_freeOf_28 : decode cX5_freeOf 28 = .ok (.imul, 1) := by decide +kernel
theorem dX5_freeOf_29 : decode cX5_freeOf 29 = .ok (.i2l, 1) := by decide +kernel
theorem dX5_freeOf_30 : decode cX5_freeOf 30 = .ok (.lrem, 1) := by decide +kernel
theorem dX5_freeOf_31 : decode cX5_freeOf 31 = .ok (.lconst 0, 1) := by decide +kernel
theorem dX5_freeOf_32 : decode cX5_freeOf 32 = .ok (.lcmp, 1) := by decide +kernel
theorem dX5_freeOf_33 : decode cX5_freeOf 33 = .ok (.ifCond .ne 15, 3) := by decide +kernel
theorem dX5_freeOf_36 : decode cX5_freeOf 36 = .ok (.lload_n 2, 1) := by decide +kernel
theorem dX5_freeOf_37 : decode cX5_freeOf 37 = .ok (.iload 4, 2) := by decide +kernel
theorem dX5_freeOf_39 : decode cX5_freeOf 39 = .ok (.iload 4, 2) := by decide +kernel
theorem dX5_freeOf_41 : decode cX5_freeOf 41 = .ok (.imul, 1) := by decide +kernel
theorem dX5_freeOf_42 : decode cX5_freeOf 42 = .ok (.i2l, 1) := by decide +kernel
theorem dX5_freeOf_43 : decode cX5_freeOf 43 = .ok (.ldiv, 1) := by decide +kernel
theorem dX5_freeOf_44 : decode cX5_freeOf 44 = .ok (.lstore_n 2, 1) := by decide +kernel
theorem dX5_freeOf_45 : decode cX5_freeOf 45 = .ok (.goto (-22), 3) := by decide +kernel
theorem dX5_freeOf_48 : decode cX5_freeOf 48 = .ok (.iinc 4 1, 3) := by decide +kernel
theorem dX5_freeOf_51 : decode cX5_freeOf 51 = .ok (.goto (-36), 3) := by decide +kernel
theorem dX5_freeOf_54 : decode cX5_freeOf 54 = .ok (.lload_n 2, 1) := by decide +kernel
theorem dX5_freeOf_55 : decode cX5_freeOf 55 = .ok (.lreturn, 1) := by decide +kernel
theorem dX5_whole_0 : decode cX5_whole 0 = .ok (.aload_n 0, 1) := by decide +kernel
theorem dX5_whole_1 : decode cX5_whole 1 = .ok (.iconst 0, 1) := by decide +kernel
theorem dX5_whole_2 : decode cX5_whole 2 = .ok (.putfield 16, 3) := by decide +kernel
theorem dX5_whole_5 : decode cX5_whole 5 = .ok (.iload_n 1, 1) := by decide +kernel
theorem dX5_whole_6 : decode cX5_whole 6 = .ok (.invokestatic 63, 3) := by decide +kernel
theorem dX5_whole_9 : decode cX5_whole 9 = .ok (.ifCond .eq 13, 3) := by decide +kernel
theorem dX5_whole_12 : decode cX5_whole 12 = .ok (.iload_n 2, 1) := by decide +kernel
theorem dX5_whole_13 : decode cX5_whole 13 = .ok (.i2l, 1) := by decide +kernel
theorem dX5_whole_14 : decode cX5_whole 14 = .ok (.lconst 0, 1) := by decide +kernel
theorem dX5_whole_15 : decode cX5_whole 15 = .ok (.lconst 1, 1) := by decide +kernel
theorem dX5_whole_16 : decode cX5_whole 16 = .ok (.invokestatic 24, 3) := by decide +kernel
theorem dX5_whole_19 : decode cX5_whole 19 = .ok (.ifCond .ne 5, 3) := by decide +kernel
theorem dX5_whole_22 : decode cX5_whole 22 = .ok (.lconst 0, 1) := by decide +kernel
theorem dX5_whole_23 : decode cX5_whole 23 = .ok (.lreturn, 1) := by decide +kernel
theorem dX5_whole_24 : decode cX5_whole 24 = .ok (.iload_n 2, 1) := by decide +kernel
theorem dX5_whole_25 : decode cX5_whole 25 = .ok (.ifCond .ne 17, 3) := by decide +kernel
theorem dX5_whole_28 : decode cX5_whole 28 = .ok (.aload_n 0, 1) := by decide +kernel
theorem dX5_whole_29 : decode cX5_whole 29 = .ok (.iload_n 1, 1) := by decide +kernel
theorem dX5_whole_30 : decode cX5_whole 30 = .ok (.aload_n 0, 1) := by decide +kernel
theorem dX5_whole_31 : decode cX5_whole 31 = .ok (.getfield 7, 3) := by decide +kernel
theorem dX5_whole_34 : decode cX5_whole 34 = .ok (.iload_n 1, 1) := by decide +kernel
theorem dX5_whole_35 : decode cX5_whole 35 = .ok (.iaload, 1) := by decide +kernel
theorem dX5_whole_36 : decode cX5_whole 36 = .ok (.invokevirtual 68, 3) := by decide +kernel
theorem dX5_whole_39 : decode cX5_whole 39 = .ok (.goto 8, 3) := by decide +kernel
theorem dX5_whole_42 : decode cX5_whole 42 = .ok (.aload_n 0, 1) := by decide +kernel
theorem dX5_whole_43 : decode cX5_whole 43 = .ok (.iload_n 1, 1) := by decide +kernel
theorem dX5_whole_44 : decode cX5_whole 44 = .ok (.invokevirtual 72, 3) := by decide +kernel
theorem dX5_whole_47 : decode cX5_whole 47 = .ok (.lreturn, 1) := by decide +kernel
theorem dX5_holdOf_0 : decode cX5_holdOf 0 = .ok (.iconst 1, 1) := by decide +kernel
theorem dX5_holdOf_1 : decode cX5_holdOf 1 = .ok (.istore 4, 2) := by decide +kernel
theorem dX5_holdOf_3 : decode cX5_holdOf 3 = .ok (.iconst 0, 1) := by decide +kernel
theorem dX5_holdOf_4 : decode cX5_holdOf 4 = .ok (.istore 5, 2) := by decide +kernel
theorem dX5_holdOf_6 : decode cX5_holdOf 6 = .ok (.iload 5, 2) := by decide +kernel
theorem dX5_holdOf_8 : decode cX5_holdOf 8 = .ok (.iload_n 2, 1) := by decide +kernel
theorem dX5_holdOf_9 : decode cX5_holdOf 9 = .ok (.if_icmp .ge 61, 3) := by decide +kernel
theorem dX5_holdOf_12 : decode cX5_holdOf 12 = .ok (.iconst 0, 1) := by decide +kernel
theorem dX5_holdOf_13 : decode cX5_holdOf 13 = .ok (.istore 6, 2) := by decide +kernel
theorem dX5_holdOf_15 : decode cX5_holdOf 15 = .ok (.iload 6, 2) := by decide +kernel
theorem dX5_holdOf_17 : decode cX5_holdOf 17 = .ok (.iload 5, 2) := by decide +kernel
theorem dX5_holdOf_19 : decode cX5_holdOf 19 = .ok (.if_icmp .ge 45, 3) := by decide +kernel
theorem dX5_holdOf_22 : decode cX5_holdOf 22 = .ok (.iload 4, 2) := by decide +kernel
theorem dX5_holdOf_24 : decode cX5_holdOf 24 = .ok (.aload_n 0, 1) := by decide +kernel
theorem dX5_holdOf_25 : decode cX5_holdOf 25 = .ok (.aload_n 0, 1) := by decide +kernel
theorem dX5_holdOf_26 : decode cX5_holdOf 26 = .ok (.getfield 13, 3) := by decide +kernel
theorem dX5_holdOf_29 : decode cX5_holdOf 29 = .ok (.bipush 6, 2) := by decide +kernel
theorem dX5_holdOf_31 : decode cX5_holdOf 31 = .ok (.iload_n 1, 1) := by decide +kernel
theorem dX5_holdOf_32 : decode cX5_holdOf 32 = .ok (.imul, 1) := by decide +kernel
theorem dX5_holdOf_33 : decode cX5_holdOf 33 = .ok (.iload 5, 2) := by decide +kernel
theorem dX5_holdOf_35 : decode cX5_holdOf 35 = .ok (.iadd, 1) := by decide +kernel
theorem dX5_holdOf_36 : decode cX5_holdOf 36 = .ok (.iaload, 1) := by decide +kernel
theorem dX5_holdOf_37 : decode cX5_holdOf 37 = .ok (.i2l, 1) := by decide +kernel
theorem dX5_holdOf_38 : decode cX5_holdOf 38 = .ok (.aload_n 0, 1) := by decide +kernel
theorem dX5_holdOf_39 : decode cX5_holdOf 39 = .ok (.getfield 13, 3) := by decide +kernel
theorem dX5_holdOf_42 : decode cX5_holdOf 42 = .ok (.bipush 6, 2) := by decide +kernel
theorem dX5_holdOf_44 : decode cX5_holdOf 44 = .ok (.iload_n 1, 1) := by decide +kernel
theorem dX5_holdOf_45 : decode cX5_holdOf 45 = .ok (.imul, 1) := by decide +kernel
theorem dX5_holdOf_46 : decode cX5_holdOf 46 = .ok (.iload 6, 2) := by decide +kernel
theorem dX5_holdOf_48 : decode cX5_holdOf 48 = .ok (.iadd, 1) := by decide +kernel
theorem dX5_holdOf_49 : decode cX5_holdOf 49 = .ok (.iaload, 1) := by decide +kernel
theorem dX5_holdOf_50 : decode cX5_holdOf 50 = .ok (.i2l, 1) := by decide +kernel
theorem dX5_holdOf_51 : decode cX5_holdOf 51 = .ok (.iload_n 3, 1) := by decide +kernel
theorem dX5_holdOf_52 : decode cX5_holdOf 52 = .ok (.invokevirtual 57, 3) := by decide +kernel
theorem dX5_holdOf_55 : decode cX5_holdOf 55 = .ok (.imul, 1) := by decide +kernel
theorem dX5_holdOf_56 : decode cX5_holdOf 56 = .ok (.istore 4, 2) := by decide +kernel
theorem dX5_holdOf_58 : decode cX5_holdOf 58 = .ok (.iinc 6 1, 3) := by decide +kernel
theorem dX5_holdOf_61 : decode cX5_holdOf 61 = .ok (.goto (-46), 3) := by decide +kernel
theorem dX5_holdOf_64 : decode cX5_holdOf 64 = .ok (.iinc 5 1, 3) := by decide +kernel
theorem dX5_holdOf_67 : decode cX5_holdOf 67 = .ok (.goto (-61), 3) := by decide +kernel
theorem dX5_holdOf_70 : decode cX5_holdOf 70 = .ok (.iload 4, 2) := by decide +kernel
theorem dX5_holdOf_72 : decode cX5_holdOf 72 = .ok (.ireturn, 1) := by decide +kernel
theorem dX5_hold_0 : decode cX5_hold 0 = .ok (.aload_n 0, 1) := by decide +kernel
theorem dX5_hold_1 : decode cX5_hold 1 = .ok (.iconst 0, 1) := by decide +kernel
theorem dX5_hold_2 : decode cX5_hold 2 = .ok (.putfield 16, 3) := by decide +kernel
theorem dX5_hold_5 : decode cX5_hold 5 = .ok (.iload_n 1, 1) := by decide +kernel
theorem dX5_hold_6 : decode cX5_hold 6 = .ok (.invokestatic 63, 3) := by decide +kernel
theorem dX5_hold_9 : decode cX5_hold 9 = .ok (.ifCond .eq 25, 3) := by decide +kernel
theorem dX5_hold_12 : decode cX5_hold 12 = .ok (.iload_n 2, 1) := by decide +kernel
theorem dX5_hold_13 : decode cX5_hold 13 = .ok (.invokestatic 54, 3) := by decide +kernel
theorem dX5_hold_16 : decode cX5_hold 16 = .ok (.ifCond .eq 18, 3) := by decide +kernel
theorem dX5_hold_19 : decode cX5_hold 19 = .ok (.aload_n 0, 1) := by decide +kernel
theorem dX5_hold_20 : decode cX5_hold 20 = .ok (.iload_n 1, 1) := by decide +kernel
theorem dX5_hold_21 : decode cX5_hold 21 = .ok (.aload_n 0, 1) := by decide +kernel
theorem dX5_hold_22 : decode cX5_hold 22 = .ok (.getfield 7, 3) := by decide +kernel
theorem dX5_hold_25 : decode cX5_hold 25 = .ok (.iload_n 1, 1) := by decide +kernel
theorem dX5_hold_26 : decode cX5_hold 26 = .ok (.iaload, 1) := by decide +kernel
theorem dX5_hold_27 : decode cX5_hold 27 = .ok (.iload_n 2, 1) := by decide +kernel
theorem dX5_hold_28 : decode cX5_hold 28 = .ok (.invokevirtual 76, 3) := by decide +kernel
theorem dX5_hold_31 : decode cX5_hold 31 = .ok (.goto 5, 3) := by decide +kernel
theorem dX5_hold_34 : decode cX5_hold 34 = .ok (.bipush (-3), 2) := by decide +kernel
theorem dX5_hold_36 : decode cX5_hold 36 = .ok (.ireturn, 1) := by decide +kernel
theorem dX5_isSquare_0 : decode cX5_isSquare 0 = .ok (.iload_n 3, 1) := by decide +kernel
theorem dX5_isSquare_1 : decode cX5_isSquare 1 = .ok (.ifCond .ne 15, 3) := by decide +kernel
theorem dX5_isSquare_4 : decode cX5_isSquare 4 = .ok (.lload_n 1, 1) := by decide +kernel
theorem dX5_isSquare_5 : decode cX5_isSquare 5 = .ok (.lconst 0, 1) := by decide +kernel
theorem dX5_isSquare_6 : decode cX5_isSquare 6 = .ok (.lcmp, 1) := by decide +kernel
theorem dX5_isSquare_7 : decode cX5_isSquare 7 = .ok (.ifCond .le 7, 3) := by decide +kernel
theorem dX5_isSquare_10 : decode cX5_isSquare 10 = .ok (.iconst 1, 1) := by decide +kernel
theorem dX5_isSquare_11 : decode cX5_isSquare 11 = .ok (.goto 4, 3) := by decide +kernel
theorem dX5_isSquare_14 : decode cX5_isSquare 14 = .ok (.iconst 0, 1) := by decide +kernel
theorem dX5_isSquare_15 : decode cX5_isSquare 15 = .ok (.ireturn, 1) := by decide +kernel
theorem dX5_isSquare_16 : decode cX5_isSquare 16 = .ok (.aload_n 0, 1) := by decide +kernel
theorem dX5_isSquare_17 : decode cX5_isSquare 17 = .ok (.lload_n 1, 1) := by decide +kernel
theorem dX5_isSquare_18 : decode cX5_isSquare 18 = .ok (.iload_n 3, 1) := by decide +kernel
theorem dX5_isSquare_19 : decode cX5_isSquare 19 = .ok (.invokevirtual 37, 3) := by decide +kernel
theorem dX5_isSquare_22 : decode cX5_isSquare 22 = .ok (.lstore 4, 2) := by decide +kernel
theorem dX5_isSquare_24 : decode cX5_isSquare 24 = .ok (.aload_n 0, 1) := by decide +kernel
theorem dX5_isSquare_25 : decode cX5_isSquare 25 = .ok (.getfield 32, 3) := by decide +kernel
theorem dX5_isSquare_28 : decode cX5_isSquare 28 = .ok (.iconst 2, 1) := by decide +kernel
theorem dX5_isSquare_29 : decode cX5_isSquare 29 = .ok (.irem, 1) := by decide +kernel
theorem dX5_isSquare_30 : decode cX5_isSquare 30 = .ok (.ifCond .ne 34, 3) := by decide +kernel
theorem dX5_isSquare_33 : decode cX5_isSquare 33 = .ok (.iload_n 3, 1) := by decide +kernel
theorem dX5_isSquare_34 : decode cX5_isSquare 34 = .ok (.iconst 2, 1) := by decide +kernel
theorem dX5_isSquare_35 : decode cX5_isSquare 35 = .ok (.if_icmp .ne 15, 3) := by decide +kernel
theorem dX5_isSquare_38 : decode cX5_isSquare 38 = .ok (.lload 4, 2) := by decide +kernel
theorem dX5_isSquare_40 : decode cX5_isSquare 40 = .ok (.invokestatic 41, 3) := by decide +kernel
theorem dX5_isSquare_43 : decode cX5_isSquare 43 = .ok (.iconst 1, 1) := by decide +kernel
theorem dX5_isSquare_44 : decode cX5_isSquare 44 = .ok (.if_icmp .ne 20, 3) := by decide +kernel
theorem dX5_isSquare_47 : decode cX5_isSquare 47 = .ok (.goto 13, 3) := by decide +kernel
theorem dX5_isSquare_50 : decode cX5_isSquare 50 = .ok (.lload 4, 2) := by decide +kernel
theorem dX5_isSquare_52 : decode cX5_isSquare 52 = .ok (.iload_n 3, 1) := by decide +kernel
theorem dX5_isSquare_53 : decode cX5_isSquare 53 = .ok (.invokestatic 45, 3) := by decide +kernel
theorem dX5_isSquare_56 : decode cX5_isSquare 56 = .ok (.iconst 1, 1) := by decide +kernel
theorem dX5_isSquare_57 : decode cX5_isSquare 57 = .ok (.if_icmp .ne 7, 3) := by decide +kernel
theorem dX5_isSquare_60 : decode cX5_isSquare 60 = .ok (.iconst 1, 1) := by decide +kernel
theorem dX5_isSquare_61 : decode cX5_isSquare 61 = .ok (.goto 4, 3) := by decide +kernel
theorem dX5_isSquare_64 : decode cX5_isSquare 64 = .ok (.iconst 0, 1) := by decide +kernel
theorem dX5_isSquare_65 : decode cX5_isSquare 65 = .ok (.ireturn, 1) := by decide +kernel
theorem dX5_aboveOf_0 : decode cX5_aboveOf 0 = .ok (.iconst 0, 1) := by decide +kernel
theorem dX5_aboveOf_1 : decode cX5_aboveOf 1 = .ok (.istore_n 3, 1) := by decide +kernel
theorem dX5_aboveOf_2 : decode cX5_aboveOf 2 = .ok (.iconst 0, 1) := by decide +kernel
theorem dX5_aboveOf_3 : decode cX5_aboveOf 3 = .ok (.istore 4, 2) := by decide +kernel
theorem dX5_aboveOf_5 : decode cX5_aboveOf 5 = .ok (.iload 4, 2) := by decide +kernel
theorem dX5_aboveOf_7 : decode cX5_aboveOf 7 = .ok (.iload_n 2, 1) := by decide +kernel
theorem dX5_aboveOf_8 : decode cX5_aboveOf 8 = .ok (.if_icmp .ge 32, 3) := by decide +kernel
theorem dX5_aboveOf_11 : decode cX5_aboveOf 11 = .ok (.iload_n 3, 1) := by decide +kernel
theorem dX5_aboveOf_12 : decode cX5_aboveOf 12 = .ok (.aload_n 0, 1) := by decide +kernel
theorem dX5_aboveOf_13 : decode cX5_aboveOf 13 = .ok (.getfield 13, 3) := by decide +kernel
theorem dX5_aboveOf_16 : decode cX5_aboveOf 16 = .ok (.bipush 6, 2) := by decide +kernel
theorem dX5_aboveOf_18 : decode cX5_aboveOf 18 = .ok (.iload_n 1, 1) := by decide +kernel
theorem dX5_aboveOf_19 : decode cX5_aboveOf 19 = .ok (.imul, 1) := by decide +kernel
theorem dX5_aboveOf_20 : decode cX5_aboveOf 20 = .ok (.iload 4, 2) := by decide +kernel
theorem dX5_aboveOf_22 : decode cX5_aboveOf 22 = .ok (.iadd, 1) := by decide +kernel
theorem dX5_aboveOf_23 : decode cX5_aboveOf 23 = .ok (.iaload, 1) := by decide +kernel
theorem dX5_aboveOf_24 : decode cX5_aboveOf 24 = .ok (.ifCond .le 7, 3) := by decide +kernel
theorem dX5_aboveOf_27 : decode cX5_aboveOf 27 = .ok (.iconst 1, 1) := by decide +kernel
theorem dX5_aboveOf_28 : decode cX5_aboveOf 28 = .ok (.goto 4, 3) := by decide +kernel
theorem dX5_aboveOf_31 : decode cX5_aboveOf 31 = .ok (.iconst 0, 1) := by decide +kernel
theorem dX5_aboveOf_32 : decode cX5_aboveOf 32 = .ok (.iadd, 1) := by decide +kernel
theorem dX5_aboveOf_33 : decode cX5_aboveOf 33 = .ok (.istore_n 3, 1) := by decide +kernel
theorem dX5_aboveOf_34 : decode cX5_aboveOf 34 = .ok (.iinc 4 1, 3) := by decide +kernel
theorem dX5_aboveOf_37 : decode cX5_aboveOf 37 = .ok (.goto (-32), 3) := by decide +kernel
theorem dX5_aboveOf_40 : decode cX5_aboveOf 40 = .ok (.iload_n 3, 1) := by decide +kernel
theorem dX5_aboveOf_41 : decode cX5_aboveOf 41 = .ok (.ireturn, 1) := by decide +kernel
theorem dX5_isGoing_0 : decode cX5_isGoing 0 = .ok (.iload_n 2, 1) := by decide +kernel
theorem dX5_isGoing_1 : decode cX5_isGoing 1 = .ok (.iconst 1, 1) := by decide +kernel
theorem dX5_isGoing_2 : decode cX5_isGoing 2 = .ok (.if_icmp .ne 5, 3) := by decide +kernel
theorem dX5_isGoing_5 : decode cX5_isGoing 5 = .ok (.iconst 0, 1) := by decide +kernel
theorem dX5_isGoing_6 : decode cX5_isGoing 6 = .ok (.ireturn, 1) := by decide +kernel
theorem dX5_isGoing_7 : decode cX5_isGoing 7 = .ok (.iload_n 3, 1) := by decide +kernel
theorem dX5_isGoing_8 : decode cX5_isGoing 8 = .ok (.ifCond .ne 20, 3) := by decide +kernel
theorem dX5_isGoing_11 : decode cX5_isGoing 11 = .ok (.aload_n 0, 1) := by decide +kernel
theorem dX5_isGoing_12 : decode cX5_isGoing 12 = .ok (.iload_n 1, 1) := by decide +kernel
theorem dX5_isGoing_13 : decode cX5_isGoing 13 = .ok (.iload_n 2, 1) := by decide +kernel
theorem dX5_isGoing_14 : decode cX5_isGoing 14 = .ok (.invokevirtual 80, 3) := by decide +kernel
theorem dX5_isGoing_17 : decode cX5_isGoing 17 = .ok (.iload_n 2, 1) := by decide +kernel
theorem dX5_isGoing_18 : decode cX5_isGoing 18 = .ok (.irem, 1) := by decide +kernel
theorem dX5_isGoing_19 : decode cX5_isGoing 19 = .ok (.ifCond .eq 7, 3) := by decide +kernel
theorem dX5_isGoing_22 : decode cX5_isGoing 22 = .ok (.iconst 1, 1) := by decide +kernel
theorem dX5_isGoing_23 : decode cX5_isGoing 23 = .ok (.goto 4, 3) := by decide +kernel
theorem dX5_isGoing_26 : decode cX5_isGoing 26 = .ok (.iconst 0, 1) := by decide +kernel
theorem dX5_isGoing_27 : decode cX5_isGoing 27 = .ok (.ireturn, 1) := by decide +kernel
theorem dX5_isGoing_28 : decode cX5_isGoing 28 = .ok (.iload_n 2, 1) := by decide +kernel
theorem dX5_isGoing_29 : decode cX5_isGoing 29 = .ok (.iconst 4, 1) := by decide +kernel
theorem dX5_isGoing_30 : decode cX5_isGoing 30 = .ok (.if_icmp .le 5, 3) := by decide +kernel
theorem dX5_isGoing_33 : decode cX5_isGoing 33 = .ok (.iconst 1, 1) := by decide +kernel
theorem dX5_isGoing_34 : decode cX5_isGoing 34 = .ok (.ireturn, 1) := by decide +kernel
theorem dX5_isGoing_35 : decode cX5_isGoing 35 = .ok (.aload_n 0, 1) := by decide +kernel
theorem dX5_isGoing_36 : decode cX5_isGoing 36 = .ok (.iload_n 1, 1) := by decide +kernel
theorem dX5_isGoing_37 : decode cX5_isGoing 37 = .ok (.iload_n 2, 1) := by decide +kernel
theorem dX5_isGoing_38 : decode cX5_isGoing 38 = .ok (.invokevirtual 68, 3) := by decide +kernel
theorem dX5_isGoing_41 : decode cX5_isGoing 41 = .ok (.lstore 4, 2) := by decide +kernel
theorem dX5_isGoing_43 : decode cX5_isGoing 43 = .ok (.iload_n 2, 1) := by decide +kernel
theorem dX5_isGoing_44 : decode cX5_isGoing 44 = .ok (.iconst 2, 1) := by decide +kernel
theorem dX5_isGoing_45 : decode cX5_isGoing 45 = .ok (.if_icmp .ne 12, 3) := by decide +kernel
theorem dX5_isGoing_48 : decode cX5_isGoing 48 = .ok (.aload_n 0, 1) := by decide +kernel
theorem dX5_isGoing_49 : decode cX5_isGoing 49 = .ok (.lload 4, 2) := by decide +kernel
theorem dX5_isGoing_51 : decode cX5_isGoing 51 = .ok (.lneg, 1) := by decide +kernel
theorem dX5_isGoing_52 : decode cX5_isGoing 52 = .ok (.iload_n 3, 1) := by decide +kernel
theorem dX5_isGoing_53 : decode cX5_isGoing 53 = .ok (.invokevirtual 84, 3) := by decide +kernel
theorem dX5_isGoing_56 : decode cX5_isGoing 56 = .ok (.ireturn, 1) := by decide +kernel
theorem dX5_isGoing_57 : decode cX5_isGoing 57 = .ok (.aload_n 0, 1) := by decide +kernel
theorem dX5_isGoing_58 : decode cX5_isGoing 58 = .ok (.iload_n 1, 1) := by decide +kernel
theorem dX5_isGoing_59 : decode cX5_isGoing 59 = .ok (.iload_n 2, 1) := by decide +kernel
theorem dX5_isGoing_60 : decode cX5_isGoing 60 = .ok (.iload_n 3, 1) := by decide +kernel
theorem dX5_isGoing_61 : decode cX5_isGoing 61 = .ok (.invokevirtual 76, 3) := by decide +kernel
theorem dX5_isGoing_64 : decode cX5_isGoing 64 = .ok (.istore 6, 2) := by decide +kernel
theorem dX5_isGoing_66 : decode cX5_isGoing 66 = .ok (.iload_n 2, 1) := by decide +kernel
theorem dX5_isGoing_67 : decode cX5_isGoing 67 = .ok (.iconst 3, 1) := by decide +kernel
theorem dX5_isGoing_68 : decode cX5_isGoing 68 = .ok (.if_icmp .ne 27, 3) := by decide +kernel
theorem dX5_isGoing_71 : decode cX5_isGoing 71 = .ok (.iload 6, 2) := by decide +kernel
theorem dX5_isGoing_73 : decode cX5_isGoing 73 = .ok (.aload_n 0, 1) := by decide +kernel
theorem dX5_isGoing_74 : decode cX5_isGoing 74 = .ok (.ldc2_w 88, 3) := by decide +kernel
theorem dX5_isGoing_77 : decode cX5_isGoing 77 = .ok (.lload 4, 2) := by decide +kernel
theorem dX5_isGoing_79 : decode cX5_isGoing 79 = .ok (.lneg, 1) := by decide +kernel
theorem dX5_isGoing_80 : decode cX5_isGoing 80 = .ok (.iload_n 3, 1) := by decide +kernel
theorem dX5_isGoing_81 : decode cX5_isGoing 81 = .ok (.invokevirtual 57, 3) := by decide +kernel
theorem dX5_isGoing_84 : decode cX5_isGoing 84 = .ok (.if_icmp .ne 7, 3) := by decide +kernel
theorem dX5_isGoing_87 : decode cX5_isGoing 87 = .ok (.iconst 1, 1) := by decide +kernel
theorem dX5_isGoing_88 : decode cX5_isGoing 88 = .ok (.goto 38, 3) := by decide +kernel
theorem dX5_isGoing_91 : decode cX5_isGoing 91 = .ok (.iconst 0, 1) := by decide +kernel
theorem dX5_isGoing_92 : decode cX5_isGoing 92 = .ok (.goto 34, 3) := by decide +kernel
theorem dX5_isGoing_95 : decode cX5_isGoing 95 = .ok (.aload_n 0, 1) := by decide +kernel
theorem dX5_isGoing_96 : decode cX5_isGoing 96 = .ok (.lload 4, 2) := by decide +kernel
theorem dX5_isGoing_98 : decode cX5_isGoing 98 = .ok (.iload_n 3, 1) := by decide +kernel
theorem dX5_isGoing_99 : decode cX5_isGoing 99 = .ok (.invokevirtual 84, 3) := by decide +kernel
theorem dX5_isGoing_102 : decode cX5_isGoing 102 = .ok (.ifCond .eq 19, 3) := by decide +kernel
theorem dX5_isGoing_105 : decode cX5_isGoing 105 = .ok (.iload 6, 2) := by decide +kernel
theorem dX5_isGoing_107 : decode cX5_isGoing 107 = .ok (.aload_n 0, 1) := by decide +kernel
theorem dX5_isGoing_108 : decode cX5_isGoing 108 = .ok (.ldc2_w 88, 3) := by decide +kernel
theorem dX5_isGoing_111 : decode cX5_isGoing 111 = .ok (.ldc2_w 88, 3) := by decide +kernel
theorem dX5_isGoing_114 : decode cX5_isGoing 114 = .ok (.iload_n 3, 1) := by decide +kernel
theorem dX5_isGoing_115 : decode cX5_isGoing 115 = .ok (.invokevirtual 57, 3) := by decide +kernel
theorem dX5_isGoing_118 : decode cX5_isGoing 118 = .ok (.if_icmp .ne 7, 3) := by decide +kernel
theorem dX5_isGoing_121 : decode cX5_isGoing 121 = .ok (.iconst 1, 1) := by decide +kernel
theorem dX5_isGoing_122 : decode cX5_isGoing 122 = .ok (.goto 4, 3) := by decide +kernel
theorem dX5_isGoing_125 : decode cX5_isGoing 125 = .ok (.iconst 0, 1) := by decide +kernel
theorem dX5_isGoing_126 : decode cX5_isGoing 126 = .ok (.ireturn, 1) := by decide +kernel
theorem dX5_goes_0 : decode cX5_goes 0 = .ok (.aload_n 0, 1) := by decide +kernel
theorem dX5_goes_1 : decode cX5_goes 1 = .ok (.iconst 0, 1) := by decide +kernel
theorem dX5_goes_2 : decode cX5_goes 2 = .ok (.putfield 16, 3) := by decide +kernel
theorem dX5_goes_5 : decode cX5_goes 5 = .ok (.iload_n 1, 1) := by decide +kernel
theorem dX5_goes_6 : decode cX5_goes 6 = .ok (.invokestatic 63, 3) := by decide +kernel
theorem dX5_goes_9 : decode cX5_goes 9 = .ok (.ifCond .eq 10, 3) := by decide +kernel
theorem dX5_goes_12 : decode cX5_goes 12 = .ok (.iload_n 2, 1) := by decide +kernel
theorem dX5_goes_13 : decode cX5_goes 13 = .ok (.invokestatic 54, 3) := by decide +kernel
theorem dX5_goes_16 : decode cX5_goes 16 = .ok (.ifCond .ne 8, 3) := by decide +kernel
theorem dX5_goes_19 : decode cX5_goes 19 = .ok (.bipush (-3), 2) := by decide +kernel
theorem dX5_goes_21 : decode cX5_goes 21 = .ok (.goto 23, 3) := by decide +kernel
theorem dX5_goes_24 : decode cX5_goes 24 = .ok (.aload_n 0, 1) := by decide +kernel
theorem dX5_goes_25 : decode cX5_goes 25 = .ok (.iload_n 1, 1) := by decide +kernel
theorem dX5_goes_26 : decode cX5_goes 26 = .ok (.aload_n 0, 1) := by decide +kernel
theorem dX5_goes_27 : decode cX5_goes 27 = .ok (.getfield 7, 3) := by decide +kernel
theorem dX5_goes_30 : decode cX5_goes 30 = .ok (.iload_n 1, 1) := by decide +kernel
theorem dX5_goes_31 : decode cX5_goes 31 = .ok (.iaload, 1) := by decide +kernel
theorem dX5_goes_32 : decode cX5_goes 32 = .ok (.iload_n 2, 1) := by decide +kernel
theorem dX5_goes_33 : decode cX5_goes 33 = .ok (.invokevirtual 90, 3) := by decide +kernel
theorem dX5_goes_36 : decode cX5_goes 36 = .ok (.ifCond .eq 7, 3) := by decide +kernel
theorem dX5_goes_39 : decode cX5_goes 39 = .ok (.iconst 1, 1) := by decide +kernel
theorem dX5_goes_40 : decode cX5_goes 40 = .ok (.goto 4, 3) := by decide +kernel
theorem dX5_goes_43 : decode cX5_goes 43 = .ok (.iconst 0, 1) := by decide +kernel
theorem dX5_goes_44 : decode cX5_goes 44 = .ok (.ireturn, 1) := by decide +kernel
theorem dX5_isWholeSquare_0 : decode cX5_isWholeSquare 0 = .ok (.lconst 0, 1) := by decide +kernel
theorem dX5_isWholeSquare_1 : decode cX5_isWholeSquare 1 = .ok (.lstore_n 2, 1) := by decide +kernel
theorem dX5_isWholeSquare_2 : decode cX5_isWholeSquare 2 = .ok (.lload_n 2, 1) := by decide +kernel
theorem dX5_isWholeSquare_3 : decode cX5_isWholeSquare 3 = .ok (.lload_n 2, 1) := by decide +kernel
theorem dX5_isWholeSquare_4 : decode cX5_isWholeSquare 4 = .ok (.lmul, 1) := by decide +kernel
theorem dX5_isWholeSquare_5 : decode cX5_isWholeSquare 5 = .ok (.lload_n 0, 1) := by decide +kernel
theorem dX5_isWholeSquare_6 : decode cX5_isWholeSquare 6 = .ok (.lcmp, 1) := by decide +kernel
theorem dX5_isWholeSquare_7 : decode cX5_isWholeSquare 7 = .ok (.ifCond .ge 10, 3) := by decide +kernel
theorem dX5_isWholeSquare_10 : decode cX5_isWholeSquare 10 = .ok (.lload_n 2, 1) := by decide +kernel
theorem dX5_isWholeSquare_11 : decode cX5_isWholeSquare 11 = .ok (.lconst 1, 1) := by decide +kernel
theorem dX5_isWholeSquare_12 : decode cX5_isWholeSquare 12 = .ok (.ladd, 1) := by decide +kernel
theorem dX5_isWholeSquare_13 : decode cX5_isWholeSquare 13 = .ok (.lstore_n 2, 1) := by decide +kernel
theorem dX5_isWholeSquare_14 : decode cX5_isWholeSquare 14 = .ok (.goto (-12), 3) := by decide +kernel
theorem dX5_isWholeSquare_17 : decode cX5_isWholeSquare 17 = .ok (.lload_n 0, 1) := by decide +kernel
theorem dX5_isWholeSquare_18 : decode cX5_isWholeSquare 18 = .ok (.lconst 0, 1) := by decide +kernel
theorem dX5_isWholeSquare_19 : decode cX5_isWholeSquare 19 = .ok (.lcmp, 1) := by decide +kernel
theorem dX5_isWholeSquare_20 : decode cX5_isWholeSquare 20 = .ok (.ifCond .le 15, 3) := by decide +kernel
theorem dX5_isWholeSquare_23 : decode cX5_isWholeSquare 23 = .ok (.lload_n 2, 1) := by decide +kernel
theorem dX5_isWholeSquare_24 : decode cX5_isWholeSquare 24 = .ok (.lload_n 2, 1) := by decide +kernel
theorem dX5_isWholeSquare_25 : decode cX5_isWholeSquare 25 = .ok (.lmul, 1) := by decide +kernel
theorem dX5_isWholeSquare_26 : decode cX5_isWholeSquare 26 = .ok (.lload_n 0, 1) := by decide +kernel
theorem dX5_isWholeSquare_27 : decode cX5_isWholeSquare 27 = .ok (.lcmp, 1) := by decide +kernel
theorem dX5_isWholeSquare_28 : decode cX5_isWholeSquare 28 = .ok (.ifCond .ne 7, 3) := by decide +kernel
theorem dX5_isWholeSquare_31 : decode cX5_isWholeSquare 31 = .ok (.iconst 1, 1) := by decide +kernel
theorem dX5_isWholeSquare_32 : decode cX5_isWholeSquare 32 = .ok (.goto 4, 3) := by decide +kernel
theorem dX5_isWholeSquare_35 : decode cX5_isWholeSquare 35 = .ok (.iconst 0, 1) := by decide +kernel
theorem dX5_isWholeSquare_36 : decode cX5_isWholeSquare 36 = .ok (.ireturn, 1) := by decide +kernel
theorem dX5_isNought_0 : decode cX5_isNought 0 = .ok (.iload_n 2, 1) := by decide +kernel
theorem dX5_isNought_1 : decode cX5_isNought 1 = .ok (.iconst 2, 1) := by decide +kernel
theorem dX5_isNought_2 : decode cX5_isNought 2 = .ok (.if_icmp .ne 14, 3) := by decide +kernel
theorem dX5_isNought_5 : decode cX5_isNought 5 = .ok (.aload_n 0, 1) := by decide +kernel
theorem dX5_isNought_6 : decode cX5_isNought 6 = .ok (.iload_n 1, 1) := by decide +kernel
theorem dX5_isNought_7 : decode cX5_isNought 7 = .ok (.iconst 2, 1) := by decide +kernel
theorem dX5_isNought_8 : decode cX5_isNought 8 = .ok (.invokevirtual 68, 3) := by decide +kernel
theorem dX5_isNought_11 : decode cX5_isNought 11 = .ok (.lneg, 1) := by decide +kernel
theorem dX5_isNought_12 : decode cX5_isNought 12 = .ok (.invokestatic 94, 3) := by decide +kernel
theorem dX5_isNought_15 : decode cX5_isNought 15 = .ok (.ireturn, 1) := by decide +kernel
theorem dX5_isNought_16 : decode cX5_isNought 16 = .ok (.iconst 1, 1) := by decide +kernel
theorem dX5_isNought_17 : decode cX5_isNought 17 = .ok (.istore_n 3, 1) := by decide +kernel
theorem dX5_isNought_18 : decode cX5_isNought 18 = .ok (.iconst 0, 1) := by decide +kernel
theorem dX5_isNought_19 : decode cX5_isNought 19 = .ok (.istore 4, 2) := by decide +kernel
theorem dX5_isNought_21 : decode cX5_isNought 21 = .ok (.iload 4, 2) := by decide +kernel
theorem dX5_isNought_23 : decode cX5_isNought 23 = .ok (.sipush 398, 3) := by decide +kernel
theorem dX5_isNought_26 : decode cX5_isNought 26 = .ok (.if_icmp .ge 52, 3) := by decide +kernel
theorem dX5_isNought_29 : decode cX5_isNought 29 = .ok (.iload_n 3, 1) := by decide +kernel
theorem dX5_isNought_30 : decode cX5_isNought 30 = .ok (.ifCond .eq 48, 3) := by decide +kernel
theorem dX5_isNought_33 : decode cX5_isNought 33 = .ok (.iload 4, 2) := by decide +kernel
theorem dX5_isNought_35 : decode cX5_isNought 35 = .ok (.ifCond .eq 28, 3) := by decide +kernel
theorem dX5_isNought_38 : decode cX5_isNought 38 = .ok (.iload 4, 2) := by decide +kernel
theorem dX5_isNought_40 : decode cX5_isNought 40 = .ok (.iconst 2, 1) := by decide +kernel
theorem dX5_isNought_41 : decode cX5_isNought 41 = .ok (.if_icmp .eq 22, 3) := by decide +kernel
theorem dX5_isNought_44 : decode cX5_isNought 44 = .ok (.aload_n 0, 1) := by decide +kernel
theorem dX5_isNought_45 : decode cX5_isNought 45 = .ok (.iload_n 1, 1) := by decide +kernel
theorem dX5_isNought_46 : decode cX5_isNought 46 = .ok (.iload_n 2, 1) := by decide +kernel
theorem dX5_isNought_47 : decode cX5_isNought 47 = .ok (.iload 4, 2) := by decide +kernel
theorem dX5_isNought_49 : decode cX5_isNought 49 = .ok (.invokevirtual 98, 3) := by decide +kernel
theorem dX5_isNought_52 : decode cX5_isNought 52 = .ok (.ifCond .eq 20, 3) := by decide +kernel
theorem dX5_isNought_55 : decode cX5_isNought 55 = .ok (.iload 4, 2) := by decide +kernel
theorem dX5_isNought_57 : decode cX5_isNought 57 = .ok (.invokestatic 28, 3) := by decide +kernel
theorem dX5_isNought_60 : decode cX5_isNought 60 = .ok (.ifCond .eq 12, 3) := by decide +kernel
theorem dX5_isNought_63 : decode cX5_isNought 63 = .ok (.aload_n 0, 1) := by decide +kernel
theorem dX5_isNought_64 : decode cX5_isNought 64 = .ok (.iload_n 1, 1) := by decide +kernel
theorem dX5_isNought_65 : decode cX5_isNought 65 = .ok (.iload_n 2, 1) := by decide +kernel
theorem dX5_isNought_66 : decode cX5_isNought 66 = .ok (.iload 4, 2) := by decide +kernel
theorem dX5_isNought_68 : decode cX5_isNought 68 = .ok (.invokevirtual 90, 3) := by decide +kernel
theorem dX5_isNought_71 : decode cX5_isNought 71 = .ok (.istore_n 3, 1) := by decide +kernel
theorem dX5_isNought_72 : decode cX5_isNought 72 = .ok (.iinc 4 1, 3) := by decide +kernel
theorem dX5_isNought_75 : decode cX5_isNought 75 = .ok (.goto (-54), 3) := by decide +kernel
theorem dX5_isNought_78 : decode cX5_isNought 78 = .ok (.iload_n 3, 1) := by decide +kernel
theorem dX5_isNought_79 : decode cX5_isNought 79 = .ok (.ireturn, 1) := by decide +kernel
theorem dX5_nought_0 : decode cX5_nought 0 = .ok (.aload_n 0, 1) := by decide +kernel
theorem dX5_nought_1 : decode cX5_nought 1 = .ok (.iconst 0, 1) := by decide +kernel
theorem dX5_nought_2 : decode cX5_nought 2 = .ok (.putfield 16, 3) := by decide +kernel
theorem dX5_nought_5 : decode cX5_nought 5 = .ok (.iload_n 1, 1) := by decide +kernel
theorem dX5_nought_6 : decode cX5_nought 6 = .ok (.invokestatic 63, 3) := by decide +kernel
theorem dX5_nought_9 : decode cX5_nought 9 = .ok (.ifCond .ne 8, 3) := by decide +kernel
theorem dX5_nought_12 : decode cX5_nought 12 = .ok (.bipush (-3), 2) := by decide +kernel
theorem dX5_nought_14 : decode cX5_nought 14 = .ok (.goto 22, 3) := by decide +kernel
theorem dX5_nought_17 : decode cX5_nought 17 = .ok (.aload_n 0, 1) := by decide +kernel
theorem dX5_nought_18 : decode cX5_nought 18 = .ok (.iload_n 1, 1) := by decide +kernel
theorem dX5_nought_19 : decode cX5_nought 19 = .ok (.aload_n 0, 1) := by decide +kernel
theorem dX5_nought_20 : decode cX5_nought 20 = .ok (.getfield 7, 3) := by decide +kernel
theorem dX5_nought_23 : decode cX5_nought 23 = .ok (.iload_n 1, 1) := by decide +kernel
theorem dX5_nought_24 : decode cX5_nought 24 = .ok (.iaload, 1) := by decide +kernel
theorem dX5_nought_25 : decode cX5_nought 25 = .ok (.invokevirtual 101, 3) := by decide +kernel
theorem dX5_nought_28 : decode cX5_nought 28 = .ok (.ifCond .eq 7, 3) := by decide +kernel
theorem dX5_nought_31 : decode cX5_nought 31 = .ok (.iconst 1, 1) := by decide +kernel
theorem dX5_nought_32 : decode cX5_nought 32 = .ok (.goto 4, 3) := by decide +kernel
theorem dX5_nought_35 : decode cX5_nought 35 = .ok (.iconst 0, 1) := by decide +kernel
theorem dX5_nought_36 : decode cX5_nought 36 = .ok (.ireturn, 1) := by decide +kernel
theorem dX5_barOf_0 : decode cX5_barOf 0 = .ok (.iconst 0, 1) := by decide +kernel
theorem dX5_barOf_1 : decode cX5_barOf 1 = .ok (.istore_n 3, 1) := by decide +kernel
theorem dX5_barOf_2 : decode cX5_barOf 2 = .ok (.iconst 0, 1) := by decide +kernel
theorem dX5_barOf_3 : decode cX5_barOf 3 = .ok (.istore 4, 2) := by decide +kernel
theorem dX5_barOf_5 : decode cX5_barOf 5 = .ok (.iload 4, 2) := by decide +kernel
theorem dX5_barOf_7 : decode cX5_barOf 7 = .ok (.sipush 398, 3) := by decide +kernel
theorem dX5_barOf_10 : decode cX5_barOf 10 = .ok (.if_icmp .ge 71, 3) := by decide +kernel
theorem dX5_barOf_13 : decode cX5_barOf 13 = .ok (.iload 4, 2) := by decide +kernel
theorem dX5_barOf_15 : decode cX5_barOf 15 = .ok (.ifCond .eq 33, 3) := by decide +kernel
theorem dX5_barOf_18 : decode cX5_barOf 18 = .ok (.iload 4, 2) := by decide +kernel
theorem dX5_barOf_20 : decode cX5_barOf 20 = .ok (.iconst 2, 1) := by decide +kernel
theorem dX5_barOf_21 : decode cX5_barOf 21 = .ok (.if_icmp .eq 27, 3) := by decide +kernel
theorem dX5_barOf_24 : decode cX5_barOf 24 = .ok (.aload_n 0, 1) := by decide +kernel
theorem dX5_barOf_25 : decode cX5_barOf 25 = .ok (.iload_n 1, 1) := by decide +kernel
theorem dX5_barOf_26 : decode cX5_barOf 26 = .ok (.aload_n 0, 1) := by decide +kernel
theorem dX5_barOf_27 : decode cX5_barOf 27 = .ok (.getfield 7, 3) := by decide +kernel
theorem dX5_barOf_30 : decode cX5_barOf 30 = .ok (.iload_n 1, 1) := by decide +kernel
theorem dX5_barOf_31 : decode cX5_barOf 31 = .ok (.iaload, 1) := by decide +kernel
theorem dX5_barOf_32 : decode cX5_barOf 32 = .ok (.iload 4, 2) := by decide +kernel
theorem dX5_barOf_34 : decode cX5_barOf 34 = .ok (.invokevirtual 98, 3) := by decide +kernel
theorem dX5_barOf_37 : decode cX5_barOf 37 = .ok (.ifCond .eq 38, 3) := by decide +kernel
theorem dX5_barOf_40 : decode cX5_barOf 40 = .ok (.iload 4, 2) := by decide +kernel
theorem dX5_barOf_42 : decode cX5_barOf 42 = .ok (.invokestatic 28, 3) := by decide +kernel
theorem dX5_barOf_45 : decode cX5_barOf 45 = .ok (.ifCond .eq 30, 3) := by decide +kernel
theorem dX5_barOf_48 : decode cX5_barOf 48 = .ok (.aload_n 0, 1) := by decide +kernel
theorem dX5_barOf_49 : decode cX5_barOf 49 = .ok (.iload_n 1, 1) := by decide +kernel
theorem dX5_barOf_50 : decode cX5_barOf 50 = .ok (.aload_n 0, 1) := by decide +kernel
theorem dX5_barOf_51 : decode cX5_barOf 51 = .ok (.getfield 7, 3) := by decide +kernel
theorem dX5_barOf_54 : decode cX5_barOf 54 = .ok (.iload_n 1, 1) := by decide +kernel
theorem dX5_barOf_55 : decode cX5_barOf 55 = .ok (.iaload, 1) := by decide +kernel
theorem dX5_barOf_56 : decode cX5_barOf 56 = .ok (.iload 4, 2) := by decide +kernel
theorem dX5_barOf_58 : decode cX5_barOf 58 = .ok (.invokevirtual 90, 3) := by decide +kernel
theorem dX5_barOf_61 : decode cX5_barOf 61 = .ok (.ifCond .ne 14, 3) := by decide +kernel
theorem dX5_barOf_64 : decode cX5_barOf 64 = .ok (.iload_n 3, 1) := by decide +kernel
theorem dX5_barOf_65 : decode cX5_barOf 65 = .ok (.iload_n 2, 1) := by decide +kernel
theorem dX5_barOf_66 : decode cX5_barOf 66 = .ok (.if_icmp .ne 6, 3) := by decide +kernel
theorem dX5_barOf_69 : decode cX5_barOf 69 = .ok (.iload 4, 2) := by decide +kernel
theorem dX5_barOf_71 : decode cX5_barOf 71 = .ok (.ireturn, 1) := by decide +kernel
theorem dX5_barOf_72 : decode cX5_barOf 72 = .ok (.iinc 3 1, 3) := by decide +kernel
theorem dX5_barOf_75 : decode cX5_barOf 75 = .ok (.iinc 4 1, 3) := by decide +kernel
theorem dX5_barOf_78 : decode cX5_barOf 78 = .ok (.goto (-73), 3) := by decide +kernel
theorem dX5_barOf_81 : decode cX5_barOf 81 = .ok (.bipush (-10), 2) := by decide +kernel
theorem dX5_barOf_83 : decode cX5_barOf 83 = .ok (.iload_n 3, 1) := by decide +kernel
theorem dX5_barOf_84 : decode cX5_barOf 84 = .ok (.isub, 1) := by decide +kernel
theorem dX5_barOf_85 : decode cX5_barOf 85 = .ok (.ireturn, 1) := by decide +kernel
theorem dX5_bars_0 : decode cX5_bars 0 = .ok (.aload_n 0, 1) := by decide +kernel
theorem dX5_bars_1 : decode cX5_bars 1 = .ok (.iconst 0, 1) := by decide +kernel
theorem dX5_bars_2 : decode cX5_bars 2 = .ok (.putfield 16, 3) := by decide +kernel
theorem dX5_bars_5 : decode cX5_bars 5 = .ok (.iload_n 1, 1) := by decide +kernel
theorem dX5_bars_6 : decode cX5_bars 6 = .ok (.invokestatic 63, 3) := by decide +kernel
theorem dX5_bars_9 : decode cX5_bars 9 = .ok (.ifCond .eq 15, 3) := by decide +kernel
theorem dX5_bars_12 : decode cX5_bars 12 = .ok (.bipush (-10), 2) := by decide +kernel
theorem dX5_bars_14 : decode cX5_bars 14 = .ok (.aload_n 0, 1) := by decide +kernel
theorem dX5_bars_15 : decode cX5_bars 15 = .ok (.iload_n 1, 1) := by decide +kernel
theorem dX5_bars_16 : decode cX5_bars 16 = .ok (.iconst (-1), 1) := by decide +kernel
theorem dX5_bars_17 : decode cX5_bars 17 = .ok (.invokevirtual 104, 3) := by decide +kernel
theorem dX5_bars_20 : decode cX5_bars 20 = .ok (.isub, 1) := by decide +kernel
theorem dX5_bars_21 : decode cX5_bars 21 = .ok (.goto 5, 3) := by decide +kernel
theorem dX5_bars_24 : decode cX5_bars 24 = .ok (.bipush (-3), 2) := by decide +kernel
theorem dX5_bars_26 : decode cX5_bars 26 = .ok (.ireturn, 1) := by decide +kernel
theorem dX5_bar_0 : decode cX5_bar 0 = .ok (.aload_n 0, 1) := by decide +kernel
theorem dX5_bar_1 : decode cX5_bar 1 = .ok (.iconst 0, 1) := by decide +kernel
theorem dX5_bar_2 : decode cX5_bar 2 = .ok (.putfield 16, 3) := by decide +kernel
theorem dX5_bar_5 : decode cX5_bar 5 = .ok (.iload_n 1, 1) := by decide +kernel
theorem dX5_bar_6 : decode cX5_bar 6 = .ok (.invokestatic 63, 3) := by decide +kernel
theorem dX5_bar_9 : decode cX5_bar 9 = .ok (.ifCond .eq 7, 3) := by decide +kernel
theorem dX5_bar_12 : decode cX5_bar 12 = .ok (.iload_n 2, 1) := by decide +kernel
theorem dX5_bar_13 : decode cX5_bar 13 = .ok (.ifCond .ge 6, 3) := by decide +kernel
theorem dX5_bar_16 : decode cX5_bar 16 = .ok (.bipush (-3), 2) := by decide +kernel
theorem dX5_bar_18 : decode cX5_bar 18 = .ok (.ireturn, 1) := by decide +kernel
theorem dX5_bar_19 : decode cX5_bar 19 = .ok (.aload_n 0, 1) := by decide +kernel
theorem dX5_bar_20 : decode cX5_bar 20 = .ok (.iload_n 1, 1) := by decide +kernel
theorem dX5_bar_21 : decode cX5_bar 21 = .ok (.iload_n 2, 1) := by decide +kernel
theorem dX5_bar_22 : decode cX5_bar 22 = .ok (.invokevirtual 104, 3) := by decide +kernel
theorem dX5_bar_25 : decode cX5_bar 25 = .ok (.istore_n 3, 1) := by decide +kernel
theorem dX5_bar_26 : decode cX5_bar 26 = .ok (.iload_n 3, 1) := by decide +kernel
theorem dX5_bar_27 : decode cX5_bar 27 = .ok (.ifCond .ge 8, 3) := by decide +kernel
theorem dX5_bar_30 : decode cX5_bar 30 = .ok (.bipush (-3), 2) := by decide +kernel
theorem dX5_bar_32 : decode cX5_bar 32 = .ok (.goto 4, 3) := by decide +kernel
theorem dX5_bar_35 : decode cX5_bar 35 = .ok (.iload_n 3, 1) := by decide +kernel
theorem dX5_bar_36 : decode cX5_bar 36 = .ok (.ireturn, 1) := by decide +kernel
theorem dX5_takes_0 : decode cX5_takes 0 = .ok (.aload_n 0, 1) := by decide +kernel
theorem dX5_takes_1 : decode cX5_takes 1 = .ok (.iconst 0, 1) := by decide +kernel
theorem dX5_takes_2 : decode cX5_takes 2 = .ok (.putfield 16, 3) := by decide +kernel
theorem dX5_takes_5 : decode cX5_takes 5 = .ok (.iload_n 1, 1) := by decide +kernel
theorem dX5_takes_6 : decode cX5_takes 6 = .ok (.invokestatic 63, 3) := by decide +kernel
theorem dX5_takes_9 : decode cX5_takes 9 = .ok (.ifCond .eq 13, 3) := by decide +kernel
theorem dX5_takes_12 : decode cX5_takes 12 = .ok (.iload_n 2, 1) := by decide +kernel
theorem dX5_takes_13 : decode cX5_takes 13 = .ok (.sipush 400, 3) := by decide +kernel
theorem dX5_takes_16 : decode cX5_takes 16 = .ok (.invokestatic 50, 3) := by decide +kernel
theorem dX5_takes_19 : decode cX5_takes 19 = .ok (.ifCond .ne 6, 3) := by decide +kernel
theorem dX5_takes_22 : decode cX5_takes 22 = .ok (.bipush (-3), 2) := by decide +kernel
theorem dX5_takes_24 : decode cX5_takes 24 = .ok (.ireturn, 1) := by decide +kernel
theorem dX5_takes_25 : decode cX5_takes 25 = .ok (.aload_n 0, 1) := by decide +kernel
theorem dX5_takes_26 : decode cX5_takes 26 = .ok (.getfield 7, 3) := by decide +kernel
theorem dX5_takes_29 : decode cX5_takes 29 = .ok (.iload_n 1, 1) := by decide +kernel
theorem dX5_takes_30 : decode cX5_takes 30 = .ok (.iaload, 1) := by decide +kernel
theorem dX5_takes_31 : decode cX5_takes 31 = .ok (.istore_n 3, 1) := by decide +kernel
theorem dX5_takes_32 : decode cX5_takes 32 = .ok (.aload_n 0, 1) := by decide +kernel
theorem dX5_takes_33 : decode cX5_takes 33 = .ok (.getfield 13, 3) := by decide +kernel
theorem dX5_takes_36 : decode cX5_takes 36 = .ok (.bipush 6, 2) := by decide +kernel
theorem dX5_takes_38 : decode cX5_takes 38 = .ok (.iload_n 1, 1) := by decide +kernel
theorem dX5_takes_39 : decode cX5_takes 39 = .ok (.imul, 1) := by decide +kernel
theorem dX5_takes_40 : decode cX5_takes 40 = .ok (.iload_n 3, 1) := by decide +kernel
theorem dX5_takes_41 : decode cX5_takes 41 = .ok (.iadd, 1) := by decide +kernel
theorem dX5_takes_42 : decode cX5_takes 42 = .ok (.iaload, 1) := by decide +kernel
theorem dX5_takes_43 : decode cX5_takes 43 = .ok (.istore 4, 2) := by decide +kernel
theorem dX5_takes_45 : decode cX5_takes 45 = .ok (.aload_n 0, 1) := by decide +kernel
theorem dX5_takes_46 : decode cX5_takes 46 = .ok (.getfield 13, 3) := by decide +kernel
theorem dX5_takes_49 : decode cX5_takes 49 = .ok (.bipush 6, 2) := by decide +kernel
theorem dX5_takes_51 : decode cX5_takes 51 = .ok (.iload_n 1, 1) := by decide +kernel
theorem dX5_takes_52 : decode cX5_takes 52 = .ok (.imul, 1) := by decide +kernel
theorem dX5_takes_53 : decode cX5_takes 53 = .ok (.iload_n 3, 1) := by decide +kernel
theorem dX5_takes_54 : decode cX5_takes 54 = .ok (.iadd, 1) := by decide +kernel
theorem dX5_takes_55 : decode cX5_takes 55 = .ok (.iload_n 2, 1) := by decide +kernel
theorem dX5_takes_56 : decode cX5_takes 56 = .ok (.ineg, 1) := by decide +kernel
theorem dX5_takes_57 : decode cX5_takes 57 = .ok (.iastore, 1) := by decide +kernel
theorem dX5_takes_58 : decode cX5_takes 58 = .ok (.aload_n 0, 1) := by decide +kernel
theorem dX5_takes_59 : decode cX5_takes 59 = .ok (.iload_n 1, 1) := by decide +kernel
theorem dX5_takes_60 : decode cX5_takes 60 = .ok (.iload_n 3, 1) := by decide +kernel
theorem dX5_takes_61 : decode cX5_takes 61 = .ok (.iconst 1, 1) := by decide +kernel
theorem dX5_takes_62 : decode cX5_takes 62 = .ok (.iadd, 1) := by decide +kernel
theorem dX5_takes_63 : decode cX5_takes 63 = .ok (.invokevirtual 101, 3) := by decide +kernel
theorem dX5_takes_66 : decode cX5_takes 66 = .ok (.istore 5, 2) := by decide +kernel
theorem dX5_takes_68 : decode cX5_takes 68 = .ok (.aload_n 0, 1) := by decide +kernel
theorem dX5_takes_69 : decode cX5_takes 69 = .ok (.getfield 13, 3) := by decide +kernel
theorem dX5_takes_72 : decode cX5_takes 72 = .ok (.bipush 6, 2) := by decide +kernel
theorem dX5_takes_74 : decode cX5_takes 74 = .ok (.iload_n 1, 1) := by decide +kernel
theorem dX5_takes_75 : decode cX5_takes 75 = .ok (.imul, 1) := by decide +kernel
theorem dX5_takes_76 : decode cX5_takes 76 = .ok (.iload_n 3, 1) := by decide +kernel
theorem dX5_takes_77 : decode cX5_takes 77 = .ok (.iadd, 1) := by decide +kernel
theorem dX5_takes_78 : decode cX5_takes 78 = .ok (.iload 4, 2) := by decide +kernel
theorem dX5_takes_80 : decode cX5_takes 80 = .ok (.iastore, 1) := by decide +kernel
theorem dX5_takes_81 : decode cX5_takes 81 = .ok (.iload 5, 2) := by decide +kernel
theorem dX5_takes_83 : decode cX5_takes 83 = .ok (.ifCond .eq 7, 3) := by decide +kernel
theorem dX5_takes_86 : decode cX5_takes 86 = .ok (.iconst 1, 1) := by decide +kernel
theorem dX5_takes_87 : decode cX5_takes 87 = .ok (.goto 4, 3) := by decide +kernel
theorem dX5_takes_90 : decode cX5_takes 90 = .ok (.iconst 0, 1) := by decide +kernel
theorem dX5_takes_91 : decode cX5_takes 91 = .ok (.ireturn, 1) := by decide +kernel
theorem dX5_alike_0 : decode cX5_alike 0 = .ok (.aload_n 0, 1) := by decide +kernel
theorem dX5_alike_1 : decode cX5_alike 1 = .ok (.iconst 0, 1) := by decide +kernel
theorem dX5_alike_2 : decode cX5_alike 2 = .ok (.putfield 16, 3) := by decide +kernel
theorem dX5_alike_5 : decode cX5_alike 5 = .ok (.iload_n 1, 1) := by decide +kernel
theorem dX5_alike_6 : decode cX5_alike 6 = .ok (.invokestatic 63, 3) := by decide +kernel
theorem dX5_alike_9 : decode cX5_alike 9 = .ok (.ifCond .eq 10, 3) := by decide +kernel
theorem dX5_alike_12 : decode cX5_alike 12 = .ok (.iload_n 2, 1) := by decide +kernel
theorem dX5_alike_13 : decode cX5_alike 13 = .ok (.invokestatic 63, 3) := by decide +kernel
theorem dX5_alike_16 : decode cX5_alike 16 = .ok (.ifCond .ne 6, 3) := by decide +kernel
theorem dX5_alike_19 : decode cX5_alike 19 = .ok (.bipush (-3), 2) := by decide +kernel
theorem dX5_alike_21 : decode cX5_alike 21 = .ok (.ireturn, 1) := by decide +kernel
theorem dX5_alike_22 : decode cX5_alike 22 = .ok (.aload_n 0, 1) := by decide +kernel
theorem dX5_alike_23 : decode cX5_alike 23 = .ok (.getfield 7, 3) := by decide +kernel
theorem dX5_alike_26 : decode cX5_alike 26 = .ok (.iload_n 1, 1) := by decide +kernel
theorem dX5_alike_27 : decode cX5_alike 27 = .ok (.iaload, 1) := by decide +kernel
theorem dX5_alike_28 : decode cX5_alike 28 = .ok (.istore_n 3, 1) := by decide +kernel
theorem dX5_alike_29 : decode cX5_alike 29 = .ok (.iload_n 3, 1) := by decide +kernel
theorem dX5_alike_30 : decode cX5_alike 30 = .ok (.aload_n 0, 1) := by decide +kernel
theorem dX5_alike_31 : decode cX5_alike 31 = .ok (.getfield 7, 3) := by decide +kernel
theorem dX5_alike_34 : decode cX5_alike 34 = .ok (.iload_n 2, 1) := by decide +kernel
theorem dX5_alike_35 : decode cX5_alike 35 = .ok (.iaload, 1) := by decide +kernel
theorem dX5_alike_36 : decode cX5_alike 36 = .ok (.if_icmp .ne 32, 3) := by decide +kernel
theorem dX5_alike_39 : decode cX5_alike 39 = .ok (.aload_n 0, 1) := by decide +kernel
theorem dX5_alike_40 : decode cX5_alike 40 = .ok (.iload_n 1, 1) := by decide +kernel
theorem dX5_alike_41 : decode cX5_alike 41 = .ok (.iload_n 3, 1) := by decide +kernel
theorem dX5_alike_42 : decode cX5_alike 42 = .ok (.invokevirtual 80, 3) := by decide +kernel
theorem dX5_alike_45 : decode cX5_alike 45 = .ok (.aload_n 0, 1) := by decide +kernel
theorem dX5_alike_46 : decode cX5_alike 46 = .ok (.iload_n 2, 1) := by decide +kernel
theorem dX5_alike_47 : decode cX5_alike 47 = .ok (.iload_n 3, 1) := by decide +kernel
theorem dX5_alike_48 : decode cX5_alike 48 = .ok (.invokevirtual 80, 3) := by decide +kernel
theorem dX5_alike_51 : decode cX5_alike 51 = .ok (.if_icmp .ne 17, 3) := by decide +kernel
theorem dX5_alike_54 : decode cX5_alike 54 = .ok (.aload_n 0, 1) := by decide +kernel
theorem dX5_alike_55 : decode cX5_alike 55 = .ok (.iload_n 1, 1) := by decide +kernel
theorem dX5_alike_56 : decode cX5_alike 56 = .ok (.invokevirtual 72, 3) := by decide +kernel
theorem dX5_alike_59 : decode cX5_alike 59 = .ok (.aload_n 0, 1) := by decide +kernel
theorem dX5_alike_60 : decode cX5_alike 60 = .ok (.iload_n 2, 1) := by decide +kernel
theorem dX5_alike_61 : decode cX5_alike 61 = .ok (.invokevirtual 72, 3) := by decide +kernel
theorem dX5_alike_64 : decode cX5_alike 64 = .ok (.lcmp, 1) := by decide +kernel
theorem dX5_alike_65 : decode cX5_alike 65 = .ok (.ifCond .eq 5, 3) := by decide +kernel
theorem dX5_alike_68 : decode cX5_alike 68 = .ok (.iconst 0, 1) := by decide +kernel
theorem dX5_alike_69 : decode cX5_alike 69 = .ok (.ireturn, 1) := by decide +kernel
theorem dX5_alike_70 : decode cX5_alike 70 = .ok (.iconst 1, 1) := by decide +kernel
theorem dX5_alike_71 : decode cX5_alike 71 = .ok (.istore 4, 2) := by decide +kernel
theorem dX5_alike_73 : decode cX5_alike 73 = .ok (.iconst 2, 1) := by decide +kernel
theorem dX5_alike_74 : decode cX5_alike 74 = .ok (.istore 5, 2) := by decide +kernel
theorem dX5_alike_76 : decode cX5_alike 76 = .ok (.iload 5, 2) := by decide +kernel
theorem dX5_alike_78 : decode cX5_alike 78 = .ok (.sipush 398, 3) := by decide +kernel
theorem dX5_alike_81 : decode cX5_alike 81 = .ok (.if_icmp .ge 74, 3) := by decide +kernel
theorem dX5_alike_84 : decode cX5_alike 84 = .ok (.iload 5, 2) := by decide +kernel
theorem dX5_alike_86 : decode cX5_alike 86 = .ok (.iconst 2, 1) := by decide +kernel
theorem dX5_alike_87 : decode cX5_alike 87 = .ok (.if_icmp .eq 33, 3) := by decide +kernel
theorem dX5_alike_90 : decode cX5_alike 90 = .ok (.aload_n 0, 1) := by decide +kernel
theorem dX5_alike_91 : decode cX5_alike 91 = .ok (.iload_n 1, 1) := by decide +kernel
theorem dX5_alike_92 : decode cX5_alike 92 = .ok (.iload_n 3, 1) := by decide +kernel
theorem dX5_alike_93 : decode cX5_alike 93 = .ok (.iload 5, 2) := by decide +kernel
theorem dX5_alike_95 : decode cX5_alike 95 = .ok (.invokevirtual 98, 3) := by decide +kernel
theorem dX5_alike_98 : decode cX5_alike 98 = .ok (.ifCond .ne 14, 3) := by decide +kernel
theorem dX5_alike_101 : decode cX5_alike 101 = .ok (.aload_n 0, 1) := by decide +kernel
theorem dX5_alike_102 : decode cX5_alike 102 = .ok (.iload_n 2, 1) := by decide +kernel
theorem dX5_alike_103 : decode cX5_alike 103 = .ok (.iload_n 3, 1) := by decide +kernel
theorem dX5_alike_104 : decode cX5_alike 104 = .ok (.iload 5, 2) := by decide +kernel
theorem dX5_alike_106 : decode cX5_alike 106 = .ok (.invokevirtual 98, 3) := by decide +kernel
theorem dX5_alike_109 : decode cX5_alike 109 = .ok (.ifCond .eq 40, 3) := by decide +kernel
theorem dX5_alike_112 : decode cX5_alike 112 = .ok (.iload 5, 2) := by decide +kernel
theorem dX5_alike_114 : decode cX5_alike 114 = .ok (.invokestatic 28, 3) := by decide +kernel
theorem dX5_alike_117 : decode cX5_alike 117 = .ok (.ifCond .eq 32, 3) := by decide +kernel
theorem dX5_alike_120 : decode cX5_alike 120 = .ok (.iload 4, 2) := by decide +kernel
theorem dX5_alike_122 : decode cX5_alike 122 = .ok (.aload_n 0, 1) := by decide +kernel
theorem dX5_alike_123 : decode cX5_alike 123 = .ok (.iload_n 1, 1) := by decide +kernel
theorem dX5_alike_124 : decode cX5_alike 124 = .ok (.iload_n 3, 1) := by decide +kernel
theorem dX5_alike_125 : decode cX5_alike 125 = .ok (.iload 5, 2) := by decide +kernel
theorem dX5_alike_127 : decode cX5_alike 127 = .ok (.invokevirtual 76, 3) := by decide +kernel
theorem dX5_alike_130 : decode cX5_alike 130 = .ok (.aload_n 0, 1) := by decide +kernel
theorem dX5_alike_131 : decode cX5_alike 131 = .ok (.iload_n 2, 1) := by decide +kernel
theorem dX5_alike_132 : decode cX5_alike 132 = .ok (.iload_n 3, 1) := by decide +kernel
theorem dX5_alike_133 : decode cX5_alike 133 = .ok (.iload 5, 2) := by decide +kernel
theorem dX5_alike_135 : decode cX5_alike 135 = .ok (.invokevirtual 76, 3) := by decide +kernel
theorem dX5_alike_138 : decode cX5_alike 138 = .ok (.if_icmp .ne 7, 3) := by decide +kernel
theorem dX5_alike_141 : decode cX5_alike 141 = .ok (.iconst 1, 1) := by decide +kernel
theorem dX5_alike_142 : decode cX5_alike 142 = .ok (.goto 4, 3) := by decide +kernel
theorem dX5_alike_145 : decode cX5_alike 145 = .ok (.iconst 0, 1) := by decide +kernel
theorem dX5_alike_146 : decode cX5_alike 146 = .ok (.iand, 1) := by decide +kernel
theorem dX5_alike_147 : decode cX5_alike 147 = .ok (.istore 4, 2) := by decide +kernel
theorem dX5_alike_149 : decode cX5_alike 149 = .ok (.iinc 5 1, 3) := by decide +kernel
theorem dX5_alike_152 : decode cX5_alike 152 = .ok (.goto (-76), 3) := by decide +kernel
theorem dX5_alike_155 : decode cX5_alike 155 = .ok (.iload 4, 2) := by decide +kernel
theorem dX5_alike_157 : decode cX5_alike 157 = .ok (.ifCond .eq 7, 3) := by decide +kernel
theorem dX5_alike_160 : decode cX5_alike 160 = .ok (.iconst 1, 1) := by decide +kernel
theorem dX5_alike_161 : decode cX5_alike 161 = .ok (.goto 4, 3) := by decide +kernel
theorem dX5_alike_164 : decode cX5_alike 164 = .ok (.iconst 0, 1) := by decide +kernel
theorem dX5_alike_165 : decode cX5_alike 165 = .ok (.ireturn, 1) := by decide +kernel
theorem dX5_worthOf_0 : decode cX5_worthOf 0 = .ok (.aload_n 0, 1) := by decide +kernel
theorem dX5_worthOf_1 : decode cX5_worthOf 1 = .ok (.getfield 13, 3) := by decide +kernel
theorem dX5_worthOf_4 : decode cX5_worthOf 4 = .ok (.bipush 6, 2) := by decide +kernel
theorem dX5_worthOf_6 : decode cX5_worthOf 6 = .ok (.iload_n 1, 1) := by decide +kernel
theorem dX5_worthOf_7 : decode cX5_worthOf 7 = .ok (.imul, 1) := by decide +kernel
theorem dX5_worthOf_8 : decode cX5_worthOf 8 = .ok (.iaload, 1) := by decide +kernel
theorem dX5_worthOf_9 : decode cX5_worthOf 9 = .ok (.i2l, 1) := by decide +kernel
theorem dX5_worthOf_10 : decode cX5_worthOf 10 = .ok (.lload_n 2, 1) := by decide +kernel
theorem dX5_worthOf_11 : decode cX5_worthOf 11 = .ok (.lmul, 1) := by decide +kernel
theorem dX5_worthOf_12 : decode cX5_worthOf 12 = .ok (.lload_n 2, 1) := by decide +kernel
theorem dX5_worthOf_13 : decode cX5_worthOf 13 = .ok (.lmul, 1) := by decide +kernel
theorem dX5_worthOf_14 : decode cX5_worthOf 14 = .ok (.aload_n 0, 1) := by decide +kernel
theorem dX5_worthOf_15 : decode cX5_worthOf 15 = .ok (.getfield 13, 3) := by decide +kernel
theorem dX5_worthOf_18 : decode cX5_worthOf 18 = .ok (.bipush 6, 2) := by decide +kernel
theorem dX5_worthOf_20 : decode cX5_worthOf 20 = .ok (.iload_n 1, 1) := by decide +kernel
theorem dX5_worthOf_21 : decode cX5_worthOf 21 = .ok (.imul, 1) := by decide +kernel
theorem dX5_worthOf_22 : decode cX5_worthOf 22 = .ok (.iconst 1, 1) := by decide +kernel
theorem dX5_worthOf_23 : decode cX5_worthOf 23 = .ok (.iadd, 1) := by decide +kernel
theorem dX5_worthOf_24 : decode cX5_worthOf 24 = .ok (.iaload, 1) := by decide +kernel
theorem dX5_worthOf_25 : decode cX5_worthOf 25 = .ok (.i2l, 1) := by decide +kernel
theorem dX5_worthOf_26 : decode cX5_worthOf 26 = .ok (.lload 4, 2) := by decide +kernel
theorem dX5_worthOf_28 : decode cX5_worthOf 28 = .ok (.lmul, 1) := by decide +kernel
theorem dX5_worthOf_29 : decode cX5_worthOf 29 = .ok (.lload 4, 2) := by decide +kernel
theorem dX5_worthOf_31 : decode cX5_worthOf 31 = .ok (.lmul, 1) := by decide +kernel
theorem dX5_worthOf_32 : decode cX5_worthOf 32 = .ok (.ladd, 1) := by decide +kernel
theorem dX5_worthOf_33 : decode cX5_worthOf 33 = .ok (.aload_n 0, 1) := by decide +kernel
theorem dX5_worthOf_34 : decode cX5_worthOf 34 = .ok (.getfield 13, 3) := by decide +kernel
theorem dX5_worthOf_37 : decode cX5_worthOf 37 = .ok (.bipush 6, 2) := by decide +kernel
theorem dX5_worthOf_39 : decode cX5_worthOf 39 = .ok (.iload_n 1, 1) := by decide +kernel
theorem dX5_worthOf_40 : decode cX5_worthOf 40 = .ok (.imul, 1) := by decide +kernel
theorem dX5_worthOf_41 : decode cX5_worthOf 41 = .ok (.iconst 2, 1) := by decide +kernel
theorem dX5_worthOf_42 : decode cX5_worthOf 42 = .ok (.iadd, 1) := by decide +kernel
theorem dX5_worthOf_43 : decode cX5_worthOf 43 = .ok (.iaload, 1) := by decide +kernel
theorem dX5_worthOf_44 : decode cX5_worthOf 44 = .ok (.i2l, 1) := by decide +kernel
theorem dX5_worthOf_45 : decode cX5_worthOf 45 = .ok (.lload 6, 2) := by decide +kernel
theorem dX5_worthOf_47 : decode cX5_worthOf 47 = .ok (.lmul, 1) := by decide +kernel
theorem dX5_worthOf_48 : decode cX5_worthOf 48 = .ok (.lload 6, 2) := by decide +kernel
theorem dX5_worthOf_50 : decode cX5_worthOf 50 = .ok (.lmul, 1) := by decide +kernel
theorem dX5_worthOf_51 : decode cX5_worthOf 51 = .ok (.ladd, 1) := by decide +kernel
theorem dX5_worthOf_52 : decode cX5_worthOf 52 = .ok (.lreturn, 1) := by decide +kernel
theorem dX5_isThree_0 : decode cX5_isThree 0 = .ok (.iload_n 1, 1) := by decide +kernel
theorem dX5_isThree_1 : decode cX5_isThree 1 = .ok (.invokestatic 63, 3) := by decide +kernel
theorem dX5_isThree_4 : decode cX5_isThree 4 = .ok (.ifCond .eq 17, 3) := by decide +kernel
theorem dX5_isThree_7 : decode cX5_isThree 7 = .ok (.aload_n 0, 1) := by decide +kernel
theorem dX5_isThree_8 : decode cX5_isThree 8 = .ok (.getfield 7, 3) := by decide +kernel
theorem dX5_isThree_11 : decode cX5_isThree 11 = .ok (.iload_n 1, 1) := by decide +kernel
theorem dX5_isThree_12 : decode cX5_isThree 12 = .ok (.iaload, 1) := by decide +kernel
theorem dX5_isThree_13 : decode cX5_isThree 13 = .ok (.iconst 3, 1) := by decide +kernel
theorem dX5_isThree_14 : decode cX5_isThree 14 = .ok (.if_icmp .ne 7, 3) := by decide +kernel
theorem dX5_isThree_17 : decode cX5_isThree 17 = .ok (.iconst 1, 1) := by decide +kernel
theorem dX5_isThree_18 : decode cX5_isThree 18 = .ok (.goto 4, 3) := by decide +kernel
theorem dX5_isThree_21 : decode cX5_isThree 21 = .ok (.iconst 0, 1) := by decide +kernel
theorem dX5_isThree_22 : decode cX5_isThree 22 = .ok (.ireturn, 1) := by decide +kernel
theorem dX5_worth_0 : decode cX5_worth 0 = .ok (.aload_n 0, 1) := by decide +kernel
theorem dX5_worth_1 : decode cX5_worth 1 = .ok (.iconst 0, 1) := by decide +kernel
theorem dX5_worth_2 : decode cX5_worth 2 = .ok (.putfield 16, 3) := by decide +kernel
theorem dX5_worth_5 : decode cX5_worth 5 = .ok (.aload_n 0, 1) := by decide +kernel
theorem dX5_worth_6 : decode cX5_worth 6 = .ok (.iload_n 1, 1) := by decide +kernel
theorem dX5_worth_7 : decode cX5_worth 7 = .ok (.invokevirtual 107, 3) := by decide +kernel
theorem dX5_worth_10 : decode cX5_worth 10 = .ok (.ifCond .eq 61, 3) := by decide +kernel
theorem dX5_worth_13 : decode cX5_worth 13 = .ok (.iload_n 2, 1) := by decide +kernel
theorem dX5_worth_14 : decode cX5_worth 14 = .ok (.i2l, 1) := by decide +kernel
theorem dX5_worth_15 : decode cX5_worth 15 = .ok (.ldc2_w 110, 3) := by decide +kernel
theorem dX5_worth_18 : decode cX5_worth 18 = .ok (.ldc2_w 112, 3) := by decide +kernel
theorem dX5_worth_21 : decode cX5_worth 21 = .ok (.invokestatic 24, 3) := by decide +kernel
theorem dX5_worth_24 : decode cX5_worth 24 = .ok (.ifCond .eq 47, 3) := by decide +kernel
theorem dX5_worth_27 : decode cX5_worth 27 = .ok (.iload_n 3, 1) := by decide +kernel
theorem dX5_worth_28 : decode cX5_worth 28 = .ok (.i2l, 1) := by decide +kernel
theorem dX5_worth_29 : decode cX5_worth 29 = .ok (.ldc2_w 110, 3) := by decide +kernel
theorem dX5_worth_32 : decode cX5_worth 32 = .ok (.ldc2_w 112, 3) := by decide +kernel
theorem dX5_worth_35 : decode cX5_worth 35 = .ok (.invokestatic 24, 3) := by decide +kernel
theorem dX5_worth_38 : decode cX5_worth 38 = .ok (.ifCond .eq 33, 3) := by decide +kernel
theorem dX5_worth_41 : decode cX5_worth 41 = .ok (.iload 4, 2) := by decide +kernel
theorem dX5_worth_43 : decode cX5_worth 43 = .ok (.i2l, 1) := by decide +kernel
theorem dX5_worth_44 : decode cX5_worth 44 = .ok (.ldc2_w 110, 3) := by decide +kernel
theorem dX5_worth_47 : decode cX5_worth 47 = .ok (.ldc2_w 112, 3) := by decide +kernel
theorem dX5_worth_50 : decode cX5_worth 50 = .ok (.invokestatic 24, 3) := by decide +kernel
theorem dX5_worth_53 : decode cX5_worth 53 = .ok (.ifCond .eq 18, 3) := by decide +kernel
theorem dX5_worth_56 : decode cX5_worth 56 = .ok (.aload_n 0, 1) := by decide +kernel
theorem dX5_worth_57 : decode cX5_worth 57 = .ok (.iload_n 1, 1) := by decide +kernel
theorem dX5_worth_58 : decode cX5_worth 58 = .ok (.iload_n 2, 1) := by decide +kernel
theorem dX5_worth_59 : decode cX5_worth 59 = .ok (.i2l, 1) := by decide +kernel
theorem dX5_worth_60 : decode cX5_worth 60 = .ok (.iload_n 3, 1) := by decide +kernel
theorem dX5_worth_61 : decode cX5_worth 61 = .ok (.i2l, 1) := by decide +kernel
theorem dX5_worth_62 : decode cX5_worth 62 = .ok (.iload 4, 2) := by decide +kernel
theorem dX5_worth_64 : decode cX5_worth 64 = .ok (.i2l, 1) := by decide +kernel
theorem dX5_worth_65 : decode cX5_worth 65 = .ok (.invokevirtual 114, 3) := by decide +kernel
theorem dX5_worth_68 : decode cX5_worth 68 = .ok (.goto 6, 3) := by decide +kernel
theorem dX5_worth_71 : decode cX5_worth 71 = .ok (.ldc2_w 118, 3) := by decide +kernel
theorem dX5_worth_74 : decode cX5_worth 74 = .ok (.lreturn, 1) := by decide +kernel
theorem dX5_size_0 : decode cX5_size 0 = .ok (.iload_n 0, 1) := by decide +kernel
theorem dX5_size_1 : decode cX5_size 1 = .ok (.ifCond .ge 8, 3) := by decide +kernel
theorem dX5_size_4 : decode cX5_size 4 = .ok (.iload_n 0, 1) := by decide +kernel
theorem dX5_size_5 : decode cX5_size 5 = .ok (.ineg, 1) := by decide +kernel
theorem dX5_size_6 : decode cX5_size 6 = .ok (.goto 4, 3) := by decide +kernel
theorem dX5_size_9 : decode cX5_size 9 = .ok (.iload_n 0, 1) := by decide +kernel
theorem dX5_size_10 : decode cX5_size 10 = .ok (.ireturn, 1) := by decide +kernel
theorem dX5_isNear_0 : decode cX5_isNear 0 = .ok (.iload_n 0, 1) := by decide +kernel
theorem dX5_isNear_1 : decode cX5_isNear 1 = .ok (.i2l, 1) := by decide +kernel
theorem dX5_isNear_2 : decode cX5_isNear 2 = .ok (.ldc2_w 120, 3) := by decide +kernel
theorem dX5_isNear_5 : decode cX5_isNear 5 = .ok (.ldc2_w 122, 3) := by decide +kernel
theorem dX5_isNear_8 : decode cX5_isNear 8 = .ok (.invokestatic 24, 3) := by decide +kernel
theorem dX5_isNear_11 : decode cX5_isNear 11 = .ok (.ifCond .eq 35, 3) := by decide +kernel
theorem dX5_isNear_14 : decode cX5_isNear 14 = .ok (.iload_n 1, 1) := by decide +kernel
theorem dX5_isNear_15 : decode cX5_isNear 15 = .ok (.i2l, 1) := by decide +kernel
theorem dX5_isNear_16 : decode cX5_isNear 16 = .ok (.ldc2_w 120, 3) := by decide +kernel
theorem dX5_isNear_19 : decode cX5_isNear 19 = .ok (.ldc2_w 122, 3) := by decide +kernel
theorem dX5_isNear_22 : decode cX5_isNear 22 = .ok (.invokestatic 24, 3) := by decide +kernel
theorem dX5_isNear_25 : decode cX5_isNear 25 = .ok (.ifCond .eq 21, 3) := by decide +kernel
theorem dX5_isNear_28 : decode cX5_isNear 28 = .ok (.iload_n 2, 1) := by decide +kernel
theorem dX5_isNear_29 : decode cX5_isNear 29 = .ok (.i2l, 1) := by decide +kernel
theorem dX5_isNear_30 : decode cX5_isNear 30 = .ok (.ldc2_w 120, 3) := by decide +kernel
theorem dX5_isNear_33 : decode cX5_isNear 33 = .ok (.ldc2_w 122, 3) := by decide +kernel
theorem dX5_isNear_36 : decode cX5_isNear 36 = .ok (.invokestatic 24, 3) := by decide +kernel
theorem dX5_isNear_39 : decode cX5_isNear 39 = .ok (.ifCond .eq 7, 3) := by decide +kernel
theorem dX5_isNear_42 : decode cX5_isNear 42 = .ok (.iconst 1, 1) := by decide +kernel
theorem dX5_isNear_43 : decode cX5_isNear 43 = .ok (.goto 4, 3) := by decide +kernel
theorem dX5_isNear_46 : decode cX5_isNear 46 = .ok (.iconst 0, 1) := by decide +kernel
theorem dX5_isNear_47 : decode cX5_isNear 47 = .ok (.ireturn, 1) := by decide +kernel
theorem dX5_measureOf_0 : decode cX5_measureOf 0 = .ok (.iload_n 1, 1) := by decide +kernel
theorem dX5_measureOf_1 : decode cX5_measureOf 1 = .ok (.invokestatic 124, 3) := by decide +kernel
theorem dX5_measureOf_4 : decode cX5_measureOf 4 = .ok (.iload_n 2, 1) := by decide +kernel
theorem dX5_measureOf_5 : decode cX5_measureOf 5 = .ok (.invokestatic 124, 3) := by decide +kernel
theorem dX5_measureOf_8 : decode cX5_measureOf 8 = .ok (.if_icmp .le 10, 3) := by decide +kernel
theorem dX5_measureOf_11 : decode cX5_measureOf 11 = .ok (.iload_n 1, 1) := by decide +kernel
theorem dX5_measureOf_12 : decode cX5_measureOf 12 = .ok (.invokestatic 124, 3) := by decide +kernel
theorem dX5_measureOf_15 : decode cX5_measureOf 15 = .ok (.goto 7, 3) := by decide +kernel
theorem dX5_measureOf_18 : decode cX5_measureOf 18 = .ok (.iload_n 2, 1) := by decide +kernel
theorem dX5_measureOf_19 : decode cX5_measureOf 19 = .ok (.invokestatic 124, 3) := by decide +kernel
theorem dX5_measureOf_22 : decode cX5_measureOf 22 = .ok (.istore 4, 2) := by decide +kernel
theorem dX5_measureOf_24 : decode cX5_measureOf 24 = .ok (.iload_n 3, 1) := by decide +kernel
theorem dX5_measureOf_25 : decode cX5_measureOf 25 = .ok (.invokestatic 124, 3) := by decide +kernel
theorem dX5_measureOf_28 : decode cX5_measureOf 28 = .ok (.iload 4, 2) := by decide +kernel
theorem dX5_measureOf_30 : decode cX5_measureOf 30 = .ok (.if_icmp .le 10, 3) := by decide +kernel
theorem dX5_measureOf_33 : decode cX5_measureOf 33 = .ok (.iload_n 3, 1) := by decide +kernel
theorem dX5_measureOf_34 : decode cX5_measureOf 34 = .ok (.invokestatic 124, 3) := by decide +kernel
theorem dX5_measureOf_37 : decode cX5_measureOf 37 = .ok (.goto 5, 3) := by decide +kernel
theorem dX5_measureOf_40 : decode cX5_measureOf 40 = .ok (.iload 4, 2) := by decide +kernel
theorem dX5_measureOf_42 : decode cX5_measureOf 42 = .ok (.istore 4, 2) := by decide +kernel
theorem dX5_measureOf_44 : decode cX5_measureOf 44 = .ok (.iload 4, 2) := by decide +kernel
theorem dX5_measureOf_46 : decode cX5_measureOf 46 = .ok (.iload_n 0, 1) := by decide +kernel
theorem dX5_measureOf_47 : decode cX5_measureOf 47 = .ok (.ifCond .le 20, 3) := by decide +kernel
theorem dX5_measureOf_50 : decode cX5_measureOf 50 = .ok (.iload_n 1, 1) := by decide +kernel
theorem dX5_measureOf_51 : decode cX5_measureOf 51 = .ok (.invokestatic 124, 3) := by decide +kernel
theorem dX5_measureOf_54 : decode cX5_measureOf 54 = .ok (.iload_n 2, 1) := by decide +kernel
theorem dX5_measureOf_55 : decode cX5_measureOf 55 = .ok (.invokestatic 124, 3) := by decide +kernel
theorem dX5_measureOf_58 : decode cX5_measureOf 58 = .ok (.iadd, 1) := by decide +kernel
theorem dX5_measureOf_59 : decode cX5_measureOf 59 = .ok (.iload_n 3, 1) := by decide +kernel
theorem dX5_measureOf_60 : decode cX5_measureOf 60 = .ok (.invokestatic 124, 3) := by decide +kernel
theorem dX5_measureOf_63 : decode cX5_measureOf 63 = .ok (.iadd, 1) := by decide +kernel
theorem dX5_measureOf_64 : decode cX5_measureOf 64 = .ok (.goto 4, 3) := by decide +kernel
theorem dX5_measureOf_67 : decode cX5_measureOf 67 = .ok (.iconst 0, 1) := by decide +kernel
theorem dX5_measureOf_68 : decode cX5_measureOf 68 = .ok (.iadd, 1) := by decide +kernel
theorem dX5_measureOf_69 : decode cX5_measureOf 69 = .ok (.istore 4, 2) := by decide +kernel
theorem dX5_measureOf_71 : decode cX5_measureOf 71 = .ok (.iload_n 0, 1) := by decide +kernel
theorem dX5_measureOf_72 : decode cX5_measureOf 72 = .ok (.iconst 2, 1) := by decide +kernel
theorem dX5_measureOf_73 : decode cX5_measureOf 73 = .ok (.if_icmp .ne 23, 3) := by decide +kernel
theorem dX5_measureOf_76 : decode cX5_measureOf 76 = .ok (.iload 4, 2) := by decide +kernel
theorem dX5_measureOf_78 : decode cX5_measureOf 78 = .ok (.bipush 7, 2) := by decide +kernel
theorem dX5_measureOf_80 : decode cX5_measureOf 80 = .ok (.iload_n 1, 1) := by decide +kernel
theorem dX5_measureOf_81 : decode cX5_measureOf 81 = .ok (.iconst 1, 1) := by decide +kernel
theorem dX5_measureOf_82 : decode cX5_measureOf 82 = .ok (.iand, 1) := by decide +kernel
theorem dX5_measureOf_83 : decode cX5_measureOf 83 = .ok (.iload_n 2, 1) := by decide +kernel
theorem dX5_measureOf_84 : decode cX5_measureOf 84 = .ok (.iconst 1, 1) := by decide +kernel
theorem dX5_measureOf_85 : decode cX5_measureOf 85 = .ok (.iand, 1) := by decide +kernel
theorem dX5_measureOf_86 : decode cX5_measureOf 86 = .ok (.iadd, 1) := by decide +kernel
theorem dX5_measureOf_87 : decode cX5_measureOf 87 = .ok (.iload_n 3, 1) := by decide +kernel
theorem dX5_measureOf_88 : decode cX5_measureOf 88 = .ok (.iconst 1, 1) := by decide +kernel
theorem dX5_measureOf_89 : decode cX5_measureOf 89 = .ok (.iand, 1) := by decide +kernel
theorem dX5_measureOf_90 : decode cX5_measureOf 90 = .ok (.iadd, 1) := by decide +kernel
theorem dX5_measureOf_91 : decode cX5_measureOf 91 = .ok (.imul, 1) := by decide +kernel
theorem dX5_measureOf_92 : decode cX5_measureOf 92 = .ok (.iadd, 1) := by decide +kernel
theorem dX5_measureOf_93 : decode cX5_measureOf 93 = .ok (.goto 5, 3) := by decide +kernel
theorem dX5_measureOf_96 : decode cX5_measureOf 96 = .ok (.iload 4, 2) := by decide +kernel
theorem dX5_measureOf_98 : decode cX5_measureOf 98 = .ok (.ireturn, 1) := by decide +kernel
theorem dX5_measure_0 : decode cX5_measure 0 = .ok (.aload_n 0, 1) := by decide +kernel
theorem dX5_measure_1 : decode cX5_measure 1 = .ok (.iconst 0, 1) := by decide +kernel
theorem dX5_measure_2 : decode cX5_measure 2 = .ok (.putfield 16, 3) := by decide +kernel
theorem dX5_measure_5 : decode cX5_measure 5 = .ok (.iload_n 1, 1) := by decide +kernel
theorem dX5_measure_6 : decode cX5_measure 6 = .ok (.i2l, 1) := by decide +kernel
theorem dX5_measure_7 : decode cX5_measure 7 = .ok (.lconst 0, 1) := by decide +kernel
theorem dX5_measure_8 : decode cX5_measure 8 = .ok (.ldc2_w 20, 3) := by decide +kernel
theorem dX5_measure_11 : decode cX5_measure 11 = .ok (.invokestatic 24, 3) := by decide +kernel
theorem dX5_measure_14 : decode cX5_measure 14 = .ok (.ifCond .eq 13, 3) := by decide +kernel
theorem dX5_measure_17 : decode cX5_measure 17 = .ok (.iload_n 2, 1) := by decide +kernel
theorem dX5_measure_18 : decode cX5_measure 18 = .ok (.iload_n 3, 1) := by decide +kernel
theorem dX5_measure_19 : decode cX5_measure 19 = .ok (.iload 4, 2) := by decide +kernel
theorem dX5_measure_21 : decode cX5_measure 21 = .ok (.invokestatic 128, 3) := by decide +kernel
theorem dX5_measure_24 : decode cX5_measure 24 = .ok (.ifCond .ne 6, 3) := by decide +kernel
theorem dX5_measure_27 : decode cX5_measure 27 = .ok (.bipush (-3), 2) := by decide +kernel
theorem dX5_measure_29 : decode cX5_measure 29 = .ok (.ireturn, 1) := by decide +kernel
theorem dX5_measure_30 : decode cX5_measure 30 = .ok (.aload_n 0, 1) := by decide +kernel
theorem dX5_measure_31 : decode cX5_measure 31 = .ok (.dup, 1) := by decide +kernel
theorem dX5_measure_32 : decode cX5_measure 32 = .ok (.getfield 131, 3) := by decide +kernel
theorem dX5_measure_35 : decode cX5_measure 35 = .ok (.iload_n 1, 1) := by decide +kernel
theorem dX5_measure_36 : decode cX5_measure 36 = .ok (.ifCond .ne 7, 3) := by decide +kernel
theorem dX5_measure_39 : decode cX5_measure 39 = .ok (.lconst 1, 1) := by decide +kernel
theorem dX5_measure_40 : decode cX5_measure 40 = .ok (.goto 17, 3) := by decide +kernel
theorem dX5_measure_43 : decode cX5_measure 43 = .ok (.iload_n 1, 1) := by decide +kernel
theorem dX5_measure_44 : decode cX5_measure 44 = .ok (.iconst 1, 1) := by decide +kernel
theorem dX5_measure_45 : decode cX5_measure 45 = .ok (.if_icmp .ne 9, 3) := by decide +kernel
theorem dX5_measure_48 : decode cX5_measure 48 = .ok (.ldc2_w 135, 3) := by decide +kernel
theorem dX5_measure_51 : decode cX5_measure 51 = .ok (.goto 6, 3) := by decide +kernel
theorem dX5_measure_54 : decode cX5_measure 54 = .ok (.ldc2_w 137, 3) := by decide +kernel
theorem dX5_measure_57 : decode cX5_measure 57 = .ok (.ladd, 1) := by decide +kernel
theorem dX5_measure_58 : decode cX5_measure 58 = .ok (.putfield 131, 3) := by decide +kernel
theorem dX5_measure_61 : decode cX5_measure 61 = .ok (.iload_n 1, 1) := by decide +kernel
theorem dX5_measure_62 : decode cX5_measure 62 = .ok (.iload_n 2, 1) := by decide +kernel
theorem dX5_measure_63 : decode cX5_measure 63 = .ok (.iload_n 3, 1) := by decide +kernel
theorem dX5_measure_64 : decode cX5_measure 64 = .ok (.iload 4, 2) := by decide +kernel
theorem dX5_measure_66 : decode cX5_measure 66 = .ok (.invokestatic 139, 3) := by decide +kernel
theorem dX5_measure_69 : decode cX5_measure 69 = .ok (.ireturn, 1) := by decide +kernel
theorem dX5_common_0 : decode cX5_common 0 = .ok (.lload_n 0, 1) := by decide +kernel
theorem dX5_common_1 : decode cX5_common 1 = .ok (.lconst 0, 1) := by decide +kernel
theorem dX5_common_2 : decode cX5_common 2 = .ok (.lcmp, 1) := by decide +kernel
theorem dX5_common_3 : decode cX5_common 3 = .ok (.ifCond .ge 8, 3) := by decide +kernel
theorem dX5_common_6 : decode cX5_common 6 = .ok (.lload_n 0, 1) := by decide +kernel
theorem dX5_common_7 : decode cX5_common 7 = .ok (.lneg, 1) := by decide +kernel
theorem dX5_common_8 : decode cX5_common 8 = .ok (.goto 4, 3) := by decide +kernel
theorem dX5_common_11 : decode cX5_common 11 = .ok (.lload_n 0, 1) := by decide +kernel
theorem dX5_common_12 : decode cX5_common 12 = .ok (.lstore 4, 2) := by decide +kernel
theorem dX5_common_14 : decode cX5_common 14 = .ok (.lload_n 2, 1) := by decide +kernel
theorem dX5_common_15 : decode cX5_common 15 = .ok (.lconst 0, 1) := by decide +kernel
theorem dX5_common_16 : decode cX5_common 16 = .ok (.lcmp, 1) := by decide +kernel
theorem dX5_common_17 : decode cX5_common 17 = .ok (.ifCond .ge 8, 3) := by decide +kernel
theorem dX5_common_20 : decode cX5_common 20 = .ok (.lload_n 2, 1) := by decide +kernel
theorem dX5_common_21 : decode cX5_common 21 = .ok (.lneg, 1) := by decide +kernel
theorem dX5_common_22 : decode cX5_common 22 = .ok (.goto 4, 3) := by decide +kernel
theorem dX5_common_25 : decode cX5_common 25 = .ok (.lload_n 2, 1) := by decide +kernel
theorem dX5_common_26 : decode cX5_common 26 = .ok (.lstore 6, 2) := by decide +kernel
theorem dX5_common_28 : decode cX5_common 28 = .ok (.lload 6, 2) := by decide +kernel
theorem dX5_common_30 : decode cX5_common 30 = .ok (.lconst 0, 1) := by decide +kernel
theorem dX5_common_31 : decode cX5_common 31 = .ok (.lcmp, 1) := by decide +kernel
theorem dX5_common_32 : decode cX5_common 32 = .ok (.ifCond .eq 21, 3) := by decide +kernel
theorem dX5_common_35 : decode cX5_common 35 = .ok (.lload 4, 2) := by decide +kernel
theorem dX5_common_37 : decode cX5_common 37 = .ok (.lload 6, 2) := by decide +kernel
theorem dX5_common_39 : decode cX5_common 39 = .ok (.lrem, 1) := by decide +kernel
theorem dX5_common_40 : decode cX5_common 40 = .ok (.lstore 8, 2) := by decide +kernel
theorem dX5_common_42 : decode cX5_common 42 = .ok (.lload 6, 2) := by decide +kernel
theorem dX5_common_44 : decode cX5_common 44 = .ok (.lstore 4, 2) := by decide +kernel
theorem dX5_common_46 : decode cX5_common 46 = .ok (.lload 8, 2) := by decide +kernel
theorem dX5_common_48 : decode cX5_common 48 = .ok (.lstore 6, 2) := by decide +kernel
theorem dX5_common_50 : decode cX5_common 50 = .ok (.goto (-22), 3) := by decide +kernel
theorem dX5_common_53 : decode cX5_common 53 = .ok (.lload 4, 2) := by decide +kernel
theorem dX5_common_55 : decode cX5_common 55 = .ok (.lreturn, 1) := by decide +kernel
theorem dX5_isFirstAbove_0 : decode cX5_isFirstAbove 0 = .ok (.lload_n 0, 1) := by decide +kernel
theorem dX5_isFirstAbove_1 : decode cX5_isFirstAbove 1 = .ok (.lconst 0, 1) := by decide +kernel
theorem dX5_isFirstAbove_2 : decode cX5_isFirstAbove 2 = .ok (.lcmp, 1) := by decide +kernel
theorem dX5_isFirstAbove_3 : decode cX5_isFirstAbove 3 = .ok (.ifCond .gt 28, 3) := by decide +kernel
theorem dX5_isFirstAbove_6 : decode cX5_isFirstAbove 6 = .ok (.lload_n 0, 1) := by decide +kernel
theorem dX5_isFirstAbove_7 : decode cX5_isFirstAbove 7 = .ok (.lconst 0, 1) := by decide +kernel
theorem dX5_isFirstAbove_8 : decode cX5_isFirstAbove 8 = .ok (.lcmp, 1) := by decide +kernel
theorem dX5_isFirstAbove_9 : decode cX5_isFirstAbove 9 = .ok (.ifCond .ne 26, 3) := by decide +kernel
theorem dX5_isFirstAbove_12 : decode cX5_isFirstAbove 12 = .ok (.lload_n 2, 1) := by decide +kernel
theorem dX5_isFirstAbove_13 : decode cX5_isFirstAbove 13 = .ok (.lconst 0, 1) := by decide +kernel
theorem dX5_isFirstAbove_14 : decode cX5_isFirstAbove 14 = .ok (.lcmp, 1) := by decide +kernel
theorem dX5_isFirstAbove_15 : decode cX5_isFirstAbove 15 = .ok (.ifCond .gt 16, 3) := by decide +kernel
theorem dX5_isFirstAbove_18 : decode cX5_isFirstAbove 18 = .ok (.lload_n 2, 1) := by decide +kernel
theorem dX5_isFirstAbove_19 : decode cX5_isFirstAbove 19 = .ok (.lconst 0, 1) := by decide +kernel
theorem dX5_isFirstAbove_20 : decode cX5_isFirstAbove 20 = .ok (.lcmp, 1) := by decide +kernel
theorem dX5_isFirstAbove_21 : decode cX5_isFirstAbove 21 = .ok (.ifCond .ne 14, 3) := by decide +kernel
theorem dX5_isFirstAbove_24 : decode cX5_isFirstAbove 24 = .ok (.lload 4, 2) := by decide +kernel
theorem dX5_isFirstAbove_26 : decode cX5_isFirstAbove 26 = .ok (.lconst 0, 1) := by decide +kernel
theorem dX5_isFirstAbove_27 : decode cX5_isFirstAbove 27 = .ok (.lcmp, 1) := by decide +kernel
theorem dX5_isFirstAbove_28 : decode cX5_isFirstAbove 28 = .ok (.ifCond .le 7, 3) := by decide +kernel
theorem dX5_isFirstAbove_31 : decode cX5_isFirstAbove 31 = .ok (.iconst 1, 1) := by decide +kernel
theorem dX5_isFirstAbove_32 : decode cX5_isFirstAbove 32 = .ok (.goto 4, 3) := by decide +kernel
theorem dX5_isFirstAbove_35 : decode cX5_isFirstAbove 35 = .ok (.iconst 0, 1) := by decide +kernel
theorem dX5_isFirstAbove_36 : decode cX5_isFirstAbove 36 = .ok (.ireturn, 1) := by decide +kernel
theorem dX5_isSolution_0 : decode cX5_isSolution 0 = .ok (.iload_n 2, 1) := by decide +kernel
theorem dX5_isSolution_1 : decode cX5_isSolution 1 = .ok (.i2l, 1) := by decide +kernel
theorem dX5_isSolution_2 : decode cX5_isSolution 2 = .ok (.iload_n 3, 1) := by decide +kernel
theorem dX5_isSolution_3 : decode cX5_isSolution 3 = .ok (.i2l, 1) := by decide +kernel
theorem dX5_isSolution_4 : decode cX5_isSolution 4 = .ok (.iload 4, 2) := by decide +kernel
theorem dX5_isSolution_6 : decode cX5_isSolution 6 = .ok (.i2l, 1) := by decide +kernel
theorem dX5_isSolution_7 : decode cX5_isSolution 7 = .ok (.invokestatic 143, 3) := by decide +kernel
theorem dX5_isSolution_10 : decode cX5_isSolution 10 = .ok (.ifCond .eq 42, 3) := by decide +kernel
theorem dX5_isSolution_13 : decode cX5_isSolution 13 = .ok (.aload_n 0, 1) := by decide +kernel
theorem dX5_isSolution_14 : decode cX5_isSolution 14 = .ok (.iload_n 1, 1) := by decide +kernel
theorem dX5_isSolution_15 : decode cX5_isSolution 15 = .ok (.iload_n 2, 1) := by decide +kernel
theorem dX5_isSolution_16 : decode cX5_isSolution 16 = .ok (.i2l, 1) := by decide +kernel
theorem dX5_isSolution_17 : decode cX5_isSolution 17 = .ok (.iload_n 3, 1) := by decide +kernel
theorem dX5_isSolution_18 : decode cX5_isSolution 18 = .ok (.i2l, 1) := by decide +kernel
theorem dX5_isSolution_19 : decode cX5_isSolution 19 = .ok (.iload 4, 2) := by decide +kernel
theorem dX5_isSolution_21 : decode cX5_isSolution 21 = .ok (.i2l, 1) := by decide +kernel
theorem dX5_isSolution_22 : decode cX5_isSolution 22 = .ok (.invokevirtual 114, 3) := by decide +kernel
theorem dX5_isSolution_25 : decode cX5_isSolution 25 = .ok (.lconst 0, 1) := by decide +kernel
theorem dX5_isSolution_26 : decode cX5_isSolution 26 = .ok (.lcmp, 1) := by decide +kernel
theorem dX5_isSolution_27 : decode cX5_isSolution 27 = .ok (.ifCond .ne 25, 3) := by decide +kernel
theorem dX5_isSolution_30 : decode cX5_isSolution 30 = .ok (.iload_n 2, 1) := by decide +kernel
theorem dX5_isSolution_31 : decode cX5_isSolution 31 = .ok (.i2l, 1) := by decide +kernel
theorem dX5_isSolution_32 : decode cX5_isSolution 32 = .ok (.iload_n 3, 1) := by decide +kernel
theorem dX5_isSolution_33 : decode cX5_isSolution 33 = .ok (.i2l, 1) := by decide +kernel
theorem dX5_isSolution_34 : decode cX5_isSolution 34 = .ok (.invokestatic 146, 3) := by decide +kernel
theorem dX5_isSolution_37 : decode cX5_isSolution 37 = .ok (.iload 4, 2) := by decide +kernel
theorem dX5_isSolution_39 : decode cX5_isSolution 39 = .ok (.i2l, 1) := by decide +kernel
theorem dX5_isSolution_40 : decode cX5_isSolution 40 = .ok (.invokestatic 146, 3) := by decide +kernel
theorem dX5_isSolution_43 : decode cX5_isSolution 43 = .ok (.lconst 1, 1) := by decide +kernel
theorem dX5_isSolution_44 : decode cX5_isSolution 44 = .ok (.lcmp, 1) := by decide +kernel
theorem dX5_isSolution_45 : decode cX5_isSolution 45 = .ok (.ifCond .ne 7, 3) := by decide +kernel
theorem dX5_isSolution_48 : decode cX5_isSolution 48 = .ok (.iconst 1, 1) := by decide +kernel
theorem dX5_isSolution_49 : decode cX5_isSolution 49 = .ok (.goto 4, 3) := by decide +kernel
theorem dX5_isSolution_52 : decode cX5_isSolution 52 = .ok (.iconst 0, 1) := by decide +kernel
theorem dX5_isSolution_53 : decode cX5_isSolution 53 = .ok (.ireturn, 1) := by decide +kernel
theorem dX5_seeks_0 : decode cX5_seeks 0 = .ok (.aload_n 0, 1) := by decide +kernel
theorem dX5_seeks_1 : decode cX5_seeks 1 = .ok (.iconst 0, 1) := by decide +kernel
theorem dX5_seeks_2 : decode cX5_seeks 2 = .ok (.putfield 150, 3) := by decide +kernel
theorem dX5_seeks_5 : decode cX5_seeks 5 = .ok (.iconst 0, 1) := by decide +kernel
theorem dX5_seeks_6 : decode cX5_seeks 6 = .ok (.istore_n 3, 1) := by decide +kernel
theorem dX5_seeks_7 : decode cX5_seeks 7 = .ok (.iload_n 3, 1) := by decide +kernel
theorem dX5_seeks_8 : decode cX5_seeks 8 = .ok (.bipush 30, 2) := by decide +kernel
theorem dX5_seeks_10 : decode cX5_seeks 10 = .ok (.if_icmp .gt 116, 3) := by decide +kernel
theorem dX5_seeks_13 : decode cX5_seeks 13 = .ok (.bipush (-30), 2) := by decide +kernel
theorem dX5_seeks_15 : decode cX5_seeks 15 = .ok (.istore 4, 2) := by decide +kernel
theorem dX5_seeks_17 : decode cX5_seeks 17 = .ok (.iload 4, 2) := by decide +kernel
theorem dX5_seeks_19 : decode cX5_seeks 19 = .ok (.bipush 30, 2) := by decide +kernel
theorem dX5_seeks_21 : decode cX5_seeks 21 = .ok (.if_icmp .gt 99, 3) := by decide +kernel
theorem dX5_seeks_24 : decode cX5_seeks 24 = .ok (.bipush (-30), 2) := by decide +kernel
theorem dX5_seeks_26 : decode cX5_seeks 26 = .ok (.istore 5, 2) := by decide +kernel
theorem dX5_seeks_28 : decode cX5_seeks 28 = .ok (.iload 5, 2) := by decide +kernel
theorem dX5_seeks_30 : decode cX5_seeks 30 = .ok (.bipush 30, 2) := by decide +kernel
theorem dX5_seeks_32 : decode cX5_seeks 32 = .ok (.if_icmp .gt 82, 3) := by decide +kernel
theorem dX5_seeks_35 : decode cX5_seeks 35 = .ok (.aload_n 0, 1) := by decide +kernel
theorem dX5_seeks_36 : decode cX5_seeks 36 = .ok (.iload_n 1, 1) := by decide +kernel
theorem dX5_seeks_37 : decode cX5_seeks 37 = .ok (.iload_n 3, 1) := by decide +kernel
theorem dX5_seeks_38 : decode cX5_seeks 38 = .ok (.iload 4, 2) := by decide +kernel
theorem dX5_seeks_40 : decode cX5_seeks 40 = .ok (.iload 5, 2) := by decide +kernel
theorem dX5_seeks_42 : decode cX5_seeks 42 = .ok (.invokevirtual 153, 3) := by decide +kernel
theorem dX5_seeks_45 : decode cX5_seeks 45 = .ok (.ifCond .eq 63, 3) := by decide +kernel
theorem dX5_seeks_48 : decode cX5_seeks 48 = .ok (.iload_n 2, 1) := by decide +kernel
theorem dX5_seeks_49 : decode cX5_seeks 49 = .ok (.iload_n 3, 1) := by decide +kernel
theorem dX5_seeks_50 : decode cX5_seeks 50 = .ok (.iload 4, 2) := by decide +kernel
theorem dX5_seeks_52 : decode cX5_seeks 52 = .ok (.iload 5, 2) := by decide +kernel
theorem dX5_seeks_54 : decode cX5_seeks 54 = .ok (.invokestatic 139, 3) := by decide +kernel
theorem dX5_seeks_57 : decode cX5_seeks 57 = .ok (.istore 6, 2) := by decide +kernel
theorem dX5_seeks_59 : decode cX5_seeks 59 = .ok (.aload_n 0, 1) := by decide +kernel
theorem dX5_seeks_60 : decode cX5_seeks 60 = .ok (.getfield 150, 3) := by decide +kernel
theorem dX5_seeks_63 : decode cX5_seeks 63 = .ok (.ifCond .eq 12, 3) := by decide +kernel
theorem dX5_seeks_66 : decode cX5_seeks 66 = .ok (.iload 6, 2) := by decide +kernel
theorem dX5_seeks_68 : decode cX5_seeks 68 = .ok (.aload_n 0, 1) := by decide +kernel
theorem dX5_seeks_69 : decode cX5_seeks 69 = .ok (.getfield 157, 3) := by decide +kernel
theorem dX5_seeks_72 : decode cX5_seeks 72 = .ok (.if_icmp .ge 26, 3) := by decide +kernel
theorem dX5_seeks_75 : decode cX5_seeks 75 = .ok (.aload_n 0, 1) := by decide +kernel
theorem dX5_seeks_76 : decode cX5_seeks 76 = .ok (.iload 6, 2) := by decide +kernel
theorem dX5_seeks_78 : decode cX5_seeks 78 = .ok (.putfield 157, 3) := by decide +kernel
theorem dX5_seeks_81 : decode cX5_seeks 81 = .ok (.aload_n 0, 1) := by decide +kernel
theorem dX5_seeks_82 : decode cX5_seeks 82 = .ok (.iload_n 3, 1) := by decide +kernel
theorem dX5_seeks_83 : decode cX5_seeks 83 = .ok (.putfield 160, 3) := by decide +kernel
theorem dX5_seeks_86 : decode cX5_seeks 86 = .ok (.aload_n 0, 1) := by decide +kernel
theorem dX5_seeks_87 : decode cX5_seeks 87 = .ok (.iload 4, 2) := by decide +kernel
theorem dX5_seeks_89 : decode cX5_seeks 89 = .ok (.putfield 163, 3) := by decide +kernel
theorem dX5_seeks_92 : decode cX5_seeks 92 = .ok (.aload_n 0, 1) := by decide +kernel
theorem dX5_seeks_93 : decode cX5_seeks 93 = .ok (.iload 5, 2) := by decide +kernel
theorem dX5_seeks_95 : decode cX5_seeks 95 = .ok (.putfield 166, 3) := by decide +kernel
theorem dX5_seeks_98 : decode cX5_seeks 98 = .ok (.aload_n 0, 1) := by decide +kernel
theorem dX5_seeks_99 : decode cX5_seeks 99 = .ok (.dup, 1) := by decide +kernel
theorem dX5_seeks_100 : decode cX5_seeks 100 = .ok (.getfield 150, 3) := by decide +kernel
theorem dX5_seeks_103 : decode cX5_seeks 103 = .ok (.iconst 1, 1) := by decide +kernel
theorem dX5_seeks_104 : decode cX5_seeks 104 = .ok (.iadd, 1) := by decide +kernel
theorem dX5_seeks_105 : decode cX5_seeks 105 = .ok (.putfield 150, 3) := by decide +kernel
theorem dX5_seeks_108 : decode cX5_seeks 108 = .ok (.iinc 5 1, 3) := by decide +kernel
theorem dX5_seeks_111 : decode cX5_seeks 111 = .ok (.goto (-83), 3) := by decide +kernel
theorem dX5_seeks_114 : decode cX5_seeks 114 = .ok (.iinc 4 1, 3) := by decide +kernel
theorem dX5_seeks_117 : decode cX5_seeks 117 = .ok (.goto (-100), 3) := by decide +kernel
theorem dX5_seeks_120 : decode cX5_seeks 120 = .ok (.iinc 3 1, 3) := by decide +kernel
theorem dX5_seeks_123 : decode cX5_seeks 123 = .ok (.goto (-116), 3) := by decide +kernel
theorem dX5_seeks_126 : decode cX5_seeks 126 = .ok (.return_, 1) := by decide +kernel
theorem dX5_least_0 : decode cX5_least 0 = .ok (.aload_n 0, 1) := by decide +kernel
theorem dX5_least_1 : decode cX5_least 1 = .ok (.iconst 0, 1) := by decide +kernel
theorem dX5_least_2 : decode cX5_least 2 = .ok (.putfield 16, 3) := by decide +kernel
theorem dX5_least_5 : decode cX5_least 5 = .ok (.aload_n 0, 1) := by decide +kernel
theorem dX5_least_6 : decode cX5_least 6 = .ok (.iload_n 1, 1) := by decide +kernel
theorem dX5_least_7 : decode cX5_least 7 = .ok (.invokevirtual 107, 3) := by decide +kernel
theorem dX5_least_10 : decode cX5_least 10 = .ok (.ifCond .eq 27, 3) := by decide +kernel
theorem dX5_least_13 : decode cX5_least 13 = .ok (.iload_n 2, 1) := by decide +kernel
theorem dX5_least_14 : decode cX5_least 14 = .ok (.i2l, 1) := by decide +kernel
theorem dX5_least_15 : decode cX5_least 15 = .ok (.lconst 0, 1) := by decide +kernel
theorem dX5_least_16 : decode cX5_least 16 = .ok (.ldc2_w 20, 3) := by decide +kernel
theorem dX5_least_19 : decode cX5_least 19 = .ok (.invokestatic 24, 3) := by decide +kernel
theorem dX5_least_22 : decode cX5_least 22 = .ok (.ifCond .eq 15, 3) := by decide +kernel
theorem dX5_least_25 : decode cX5_least 25 = .ok (.iload_n 3, 1) := by decide +kernel
theorem dX5_least_26 : decode cX5_least 26 = .ok (.i2l, 1) := by decide +kernel
theorem dX5_least_27 : decode cX5_least 27 = .ok (.lconst 0, 1) := by decide +kernel
theorem dX5_least_28 : decode cX5_least 28 = .ok (.ldc2_w 61, 3) := by decide +kernel
theorem dX5_least_31 : decode cX5_least 31 = .ok (.invokestatic 24, 3) := by decide +kernel
theorem dX5_least_34 : decode cX5_least 34 = .ok (.ifCond .ne 7, 3) := by decide +kernel
