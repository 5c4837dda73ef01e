theorem dJ0_length_0 : decode (mm_cc MJ0_length) 0 = .ok (.aload_n 0, 1) := by decide +kernel
theorem dJ0_length_1 : decode (mm_cc MJ0_length) 1 = .ok (.getfield 9, 3) := by decide +kernel
theorem dJ0_length_4 : decode (mm_cc MJ0_length) 4 = .ok (.arraylength, 1) := by decide +kernel
theorem dJ0_length_5 : decode (mm_cc MJ0_length) 5 = .ok (.aload_n 0, 1) := by decide +kernel
theorem dJ0_length_6 : decode (mm_cc MJ0_length) 6 = .ok (.invokevirtual 335, 3) := by decide +kernel
theorem dJ0_length_9 : decode (mm_cc MJ0_length) 9 = .ok (.ishr, 1) := by decide +kernel
theorem dJ0_length_10 : decode (mm_cc MJ0_length) 10 = .ok (.ireturn, 1) := by decide +kernel
theorem dJ0_coder_0 : decode (mm_cc MJ0_coder) 0 = .ok (.getstatic 38, 3) := by decide +kernel
theorem dJ0_coder_3 : decode (mm_cc MJ0_coder) 3 = .ok (.ifCond .eq 10, 3) := by decide +kernel
theorem dJ0_coder_6 : decode (mm_cc MJ0_coder) 6 = .ok (.aload_n 0, 1) := by decide +kernel
theorem dJ0_coder_7 : decode (mm_cc MJ0_coder) 7 = .ok (.getfield 15, 3) := by decide +kernel
theorem dJ0_coder_10 : decode (mm_cc MJ0_coder) 10 = .ok (.goto 4, 3) := by decide +kernel
theorem dJ0_coder_13 : decode (mm_cc MJ0_coder) 13 = .ok (.iconst 1, 1) := by decide +kernel
theorem dJ0_coder_14 : decode (mm_cc MJ0_coder) 14 = .ok (.ireturn, 1) := by decide +kernel
theorem dJ0_isLatin1_0 : decode (mm_cc MJ0_isLatin1) 0 = .ok (.getstatic 38, 3) := by decide +kernel
theorem dJ0_isLatin1_3 : decode (mm_cc MJ0_isLatin1) 3 = .ok (.ifCond .eq 14, 3) := by decide +kernel
theorem dJ0_isLatin1_6 : decode (mm_cc MJ0_isLatin1) 6 = .ok (.aload_n 0, 1) := by decide +kernel
theorem dJ0_isLatin1_7 : decode (mm_cc MJ0_isLatin1) 7 = .ok (.getfield 15, 3) := by decide +kernel
theorem dJ0_isLatin1_10 : decode (mm_cc MJ0_isLatin1) 10 = .ok (.ifCond .ne 7, 3) := by decide +kernel
theorem dJ0_isLatin1_13 : decode (mm_cc MJ0_isLatin1) 13 = .ok (.iconst 1, 1) := by decide +kernel
theorem dJ0_isLatin1_14 : decode (mm_cc MJ0_isLatin1) 14 = .ok (.goto 4, 3) := by decide +kernel
theorem dJ0_isLatin1_17 : decode (mm_cc MJ0_isLatin1) 17 = .ok (.iconst 0, 1) := by decide +kernel
theorem dJ0_isLatin1_18 : decode (mm_cc MJ0_isLatin1) 18 = .ok (.ireturn, 1) := by decide +kernel
theorem dJ0_checkIndex_0 : decode (mm_cc MJ0_checkIndex) 0 = .ok (.iload_n 0, 1) := by decide +kernel
theorem dJ0_checkIndex_1 : decode (mm_cc MJ0_checkIndex) 1 = .ok (.iload_n 1, 1) := by decide +kernel
theorem dJ0_checkIndex_2 : decode (mm_cc MJ0_checkIndex) 2 = .ok (.getstatic 1053, 3) := by decide +kernel
theorem dJ0_checkIndex_5 : decode (mm_cc MJ0_checkIndex) 5 = .ok (.invokestatic 1059, 3) := by decide +kernel
theorem dJ0_checkIndex_8 : decode (mm_cc MJ0_checkIndex) 8 = .ok (.pop, 1) := by decide +kernel
theorem dJ0_checkIndex_9 : decode (mm_cc MJ0_checkIndex) 9 = .ok (.return_, 1) := by decide +kernel
theorem dJ0_charAt_0 : decode (mm_cc MJ0_charAt) 0 = .ok (.aload_n 0, 1) := by decide +kernel
theorem dJ0_charAt_1 : decode (mm_cc MJ0_charAt) 1 = .ok (.invokevirtual 492, 3) := by decide +kernel
theorem dJ0_charAt_4 : decode (mm_cc MJ0_charAt) 4 = .ok (.ifCond .eq 12, 3) := by decide +kernel
theorem dJ0_charAt_7 : decode (mm_cc MJ0_charAt) 7 = .ok (.aload_n 0, 1) := by decide +kernel
theorem dJ0_charAt_8 : decode (mm_cc MJ0_charAt) 8 = .ok (.getfield 9, 3) := by decide +kernel
theorem dJ0_charAt_11 : decode (mm_cc MJ0_charAt) 11 = .ok (.iload_n 1, 1) := by decide +kernel
theorem dJ0_charAt_12 : decode (mm_cc MJ0_charAt) 12 = .ok (.invokestatic 495, 3) := by decide +kernel
theorem dJ0_charAt_15 : decode (mm_cc MJ0_charAt) 15 = .ok (.ireturn, 1) := by decide +kernel
theorem dJ0_charAt_16 : decode (mm_cc MJ0_charAt) 16 = .ok (.aload_n 0, 1) := by decide +kernel
theorem dJ0_charAt_17 : decode (mm_cc MJ0_charAt) 17 = .ok (.getfield 9, 3) := by decide +kernel
theorem dJ0_charAt_20 : decode (mm_cc MJ0_charAt) 20 = .ok (.iload_n 1, 1) := by decide +kernel
theorem dJ0_charAt_21 : decode (mm_cc MJ0_charAt) 21 = .ok (.invokestatic 498, 3) := by decide +kernel
theorem dJ0_charAt_24 : decode (mm_cc MJ0_charAt) 24 = .ok (.ireturn, 1) := by decide +kernel
theorem dJ1_charAt_0 : decode (mm_cc MJ1_charAt) 0 = .ok (.iload_n 1, 1) := by decide +kernel
theorem dJ1_charAt_1 : decode (mm_cc MJ1_charAt) 1 = .ok (.aload_n 0, 1) := by decide +kernel
theorem dJ1_charAt_2 : decode (mm_cc MJ1_charAt) 2 = .ok (.arraylength, 1) := by decide +kernel
theorem dJ1_charAt_3 : decode (mm_cc MJ1_charAt) 3 = .ok (.invokestatic 9, 3) := by decide +kernel
theorem dJ1_charAt_6 : decode (mm_cc MJ1_charAt) 6 = .ok (.aload_n 0, 1) := by decide +kernel
theorem dJ1_charAt_7 : decode (mm_cc MJ1_charAt) 7 = .ok (.iload_n 1, 1) := by decide +kernel
theorem dJ1_charAt_8 : decode (mm_cc MJ1_charAt) 8 = .ok (.baload, 1) := by decide +kernel
theorem dJ1_charAt_9 : decode (mm_cc MJ1_charAt) 9 = .ok (.sipush 255, 3) := by decide +kernel
theorem dJ1_charAt_12 : decode (mm_cc MJ1_charAt) 12 = .ok (.iand, 1) := by decide +kernel
theorem dJ1_charAt_13 : decode (mm_cc MJ1_charAt) 13 = .ok (.i2c, 1) := by decide +kernel
theorem dJ1_charAt_14 : decode (mm_cc MJ1_charAt) 14 = .ok (.ireturn, 1) := by decide +kernel
theorem dJ3_checkIndex_0 : decode (mm_cc MJ3_checkIndex) 0 = .ok (.iload_n 0, 1) := by decide +kernel
theorem dJ3_checkIndex_1 : decode (mm_cc MJ3_checkIndex) 1 = .ok (.ifCond .lt 8, 3) := by decide +kernel
theorem dJ3_checkIndex_4 : decode (mm_cc MJ3_checkIndex) 4 = .ok (.iload_n 0, 1) := by decide +kernel
theorem dJ3_checkIndex_5 : decode (mm_cc MJ3_checkIndex) 5 = .ok (.iload_n 1, 1) := by decide +kernel
theorem dJ3_checkIndex_6 : decode (mm_cc MJ3_checkIndex) 6 = .ok (.if_icmp .lt 10, 3) := by decide +kernel
theorem dJ3_checkIndex_9 : decode (mm_cc MJ3_checkIndex) 9 = .ok (.aload_n 2, 1) := by decide +kernel
theorem dJ3_checkIndex_10 : decode (mm_cc MJ3_checkIndex) 10 = .ok (.iload_n 0, 1) := by decide +kernel
theorem dJ3_checkIndex_11 : decode (mm_cc MJ3_checkIndex) 11 = .ok (.iload_n 1, 1) := by decide +kernel
theorem dJ3_checkIndex_12 : decode (mm_cc MJ3_checkIndex) 12 = .ok (.invokestatic 95, 3) := by decide +kernel
theorem dJ3_checkIndex_15 : decode (mm_cc MJ3_checkIndex) 15 = .ok (.athrow, 1) := by decide +kernel
theorem dJ3_checkIndex_16 : decode (mm_cc MJ3_checkIndex) 16 = .ok (.iload_n 0, 1) := by decide +kernel
theorem dJ3_checkIndex_17 : decode (mm_cc MJ3_checkIndex) 17 = .ok (.ireturn, 1) := by decide +kernel
theorem d0_hasPerson_0 : decode (mm_cc M0_hasPerson) 0 = .ok (.iload_n 1, 1) := by decide +kernel
theorem d0_hasPerson_1 : decode (mm_cc M0_hasPerson) 1 = .ok (.ifCond .lt 15, 3) := by decide +kernel
theorem d0_hasPerson_4 : decode (mm_cc M0_hasPerson) 4 = .ok (.iload_n 1, 1) := by decide +kernel
theorem d0_hasPerson_5 : decode (mm_cc M0_hasPerson) 5 = .ok (.aload_n 0, 1) := by decide +kernel
theorem d0_hasPerson_6 : decode (mm_cc M0_hasPerson) 6 = .ok (.getfield 36, 3) := by decide +kernel
theorem d0_hasPerson_9 : decode (mm_cc M0_hasPerson) 9 = .ok (.if_icmp .ge 7, 3) := by decide +kernel
theorem d0_hasPerson_12 : decode (mm_cc M0_hasPerson) 12 = .ok (.iconst 1, 1) := by decide +kernel
theorem d0_hasPerson_13 : decode (mm_cc M0_hasPerson) 13 = .ok (.goto 4, 3) := by decide +kernel
theorem d0_hasPerson_16 : decode (mm_cc M0_hasPerson) 16 = .ok (.iconst 0, 1) := by decide +kernel
theorem d0_hasPerson_17 : decode (mm_cc M0_hasPerson) 17 = .ok (.ireturn, 1) := by decide +kernel
theorem d0_hasTrade_0 : decode (mm_cc M0_hasTrade) 0 = .ok (.iload_n 1, 1) := by decide +kernel
theorem d0_hasTrade_1 : decode (mm_cc M0_hasTrade) 1 = .ok (.ifCond .lt 15, 3) := by decide +kernel
theorem d0_hasTrade_4 : decode (mm_cc M0_hasTrade) 4 = .ok (.iload_n 1, 1) := by decide +kernel
theorem d0_hasTrade_5 : decode (mm_cc M0_hasTrade) 5 = .ok (.aload_n 0, 1) := by decide +kernel
theorem d0_hasTrade_6 : decode (mm_cc M0_hasTrade) 6 = .ok (.getfield 32, 3) := by decide +kernel
theorem d0_hasTrade_9 : decode (mm_cc M0_hasTrade) 9 = .ok (.if_icmp .ge 7, 3) := by decide +kernel
theorem d0_hasTrade_12 : decode (mm_cc M0_hasTrade) 12 = .ok (.iconst 1, 1) := by decide +kernel
theorem d0_hasTrade_13 : decode (mm_cc M0_hasTrade) 13 = .ok (.goto 4, 3) := by decide +kernel
theorem d0_hasTrade_16 : decode (mm_cc M0_hasTrade) 16 = .ok (.iconst 0, 1) := by decide +kernel
theorem d0_hasTrade_17 : decode (mm_cc M0_hasTrade) 17 = .ok (.ireturn, 1) := by decide +kernel
theorem d10_cell_0 : decode (mm_cc M10_cell) 0 = .ok (.iload_n 0, 1) := by decide +kernel
theorem d10_cell_1 : decode (mm_cc M10_cell) 1 = .ok (.ifCond .lt 23, 3) := by decide +kernel
theorem d10_cell_4 : decode (mm_cc M10_cell) 4 = .ok (.iload_n 0, 1) := by decide +kernel
theorem d10_cell_5 : decode (mm_cc M10_cell) 5 = .ok (.bipush 8, 2) := by decide +kernel
theorem d10_cell_7 : decode (mm_cc M10_cell) 7 = .ok (.if_icmp .ge 17, 3) := by decide +kernel
theorem d10_cell_10 : decode (mm_cc M10_cell) 10 = .ok (.iload_n 1, 1) := by decide +kernel
theorem d10_cell_11 : decode (mm_cc M10_cell) 11 = .ok (.ifCond .lt 13, 3) := by decide +kernel
theorem d10_cell_14 : decode (mm_cc M10_cell) 14 = .ok (.iload_n 1, 1) := by decide +kernel
theorem d10_cell_15 : decode (mm_cc M10_cell) 15 = .ok (.bipush 6, 2) := by decide +kernel
theorem d10_cell_17 : decode (mm_cc M10_cell) 17 = .ok (.if_icmp .ge 7, 3) := by decide +kernel
theorem d10_cell_20 : decode (mm_cc M10_cell) 20 = .ok (.iconst 1, 1) := by decide +kernel
theorem d10_cell_21 : decode (mm_cc M10_cell) 21 = .ok (.goto 4, 3) := by decide +kernel
theorem d10_cell_24 : decode (mm_cc M10_cell) 24 = .ok (.iconst 0, 1) := by decide +kernel
theorem d10_cell_25 : decode (mm_cc M10_cell) 25 = .ok (.istore_n 2, 1) := by decide +kernel
theorem d10_cell_26 : decode (mm_cc M10_cell) 26 = .ok (.iload_n 2, 1) := by decide +kernel
theorem d10_cell_27 : decode (mm_cc M10_cell) 27 = .ok (.ifCond .eq 12, 3) := by decide +kernel
theorem d10_cell_30 : decode (mm_cc M10_cell) 30 = .ok (.iload_n 0, 1) := by decide +kernel
theorem d10_cell_31 : decode (mm_cc M10_cell) 31 = .ok (.bipush 6, 2) := by decide +kernel
theorem d10_cell_33 : decode (mm_cc M10_cell) 33 = .ok (.imul, 1) := by decide +kernel
theorem d10_cell_34 : decode (mm_cc M10_cell) 34 = .ok (.iload_n 1, 1) := by decide +kernel
theorem d10_cell_35 : decode (mm_cc M10_cell) 35 = .ok (.iadd, 1) := by decide +kernel
theorem d10_cell_36 : decode (mm_cc M10_cell) 36 = .ok (.goto 4, 3) := by decide +kernel
theorem d10_cell_39 : decode (mm_cc M10_cell) 39 = .ok (.iconst (-1), 1) := by decide +kernel
theorem d10_cell_40 : decode (mm_cc M10_cell) 40 = .ok (.ireturn, 1) := by decide +kernel
theorem d10_fault_0 : decode (mm_cc M10_fault) 0 = .ok (.aload_n 0, 1) := by decide +kernel
theorem d10_fault_1 : decode (mm_cc M10_fault) 1 = .ok (.getfield 10, 3) := by decide +kernel
theorem d10_fault_4 : decode (mm_cc M10_fault) 4 = .ok (.getfield 175, 3) := by decide +kernel
theorem d10_fault_7 : decode (mm_cc M10_fault) 7 = .ok (.ireturn, 1) := by decide +kernel
theorem d10_has_0 : decode (mm_cc M10_has) 0 = .ok (.iload_n 1, 1) := by decide +kernel
theorem d10_has_1 : decode (mm_cc M10_has) 1 = .ok (.ifCond .lt 21, 3) := by decide +kernel
theorem d10_has_4 : decode (mm_cc M10_has) 4 = .ok (.iload_n 1, 1) := by decide +kernel
theorem d10_has_5 : decode (mm_cc M10_has) 5 = .ok (.bipush 32, 2) := by decide +kernel
theorem d10_has_7 : decode (mm_cc M10_has) 7 = .ok (.if_icmp .ge 15, 3) := by decide +kernel
theorem d10_has_10 : decode (mm_cc M10_has) 10 = .ok (.iload_n 0, 1) := by decide +kernel
theorem d10_has_11 : decode (mm_cc M10_has) 11 = .ok (.iload_n 1, 1) := by decide +kernel
theorem d10_has_12 : decode (mm_cc M10_has) 12 = .ok (.iushr, 1) := by decide +kernel
theorem d10_has_13 : decode (mm_cc M10_has) 13 = .ok (.iconst 1, 1) := by decide +kernel
theorem d10_has_14 : decode (mm_cc M10_has) 14 = .ok (.iand, 1) := by decide +kernel
theorem d10_has_15 : decode (mm_cc M10_has) 15 = .ok (.ifCond .eq 7, 3) := by decide +kernel
theorem d10_has_18 : decode (mm_cc M10_has) 18 = .ok (.iconst 1, 1) := by decide +kernel
theorem d10_has_19 : decode (mm_cc M10_has) 19 = .ok (.goto 4, 3) := by decide +kernel
theorem d10_has_22 : decode (mm_cc M10_has) 22 = .ok (.iconst 0, 1) := by decide +kernel
theorem d10_has_23 : decode (mm_cc M10_has) 23 = .ok (.ireturn, 1) := by decide +kernel
theorem d10_image_0 : decode (mm_cc M10_image) 0 = .ok (.iload_n 1, 1) := by decide +kernel
theorem d10_image_1 : decode (mm_cc M10_image) 1 = .ok (.ifCond .ne 10, 3) := by decide +kernel
theorem d10_image_4 : decode (mm_cc M10_image) 4 = .ok (.aload_n 0, 1) := by decide +kernel
theorem d10_image_5 : decode (mm_cc M10_image) 5 = .ok (.getfield 55, 3) := by decide +kernel
theorem d10_image_8 : decode (mm_cc M10_image) 8 = .ok (.goto 7, 3) := by decide +kernel
theorem d10_image_11 : decode (mm_cc M10_image) 11 = .ok (.aload_n 0, 1) := by decide +kernel
theorem d10_image_12 : decode (mm_cc M10_image) 12 = .ok (.getfield 58, 3) := by decide +kernel
theorem d10_image_15 : decode (mm_cc M10_image) 15 = .ok (.areturn, 1) := by decide +kernel
theorem d10_seed_0 : decode (mm_cc M10_seed) 0 = .ok (.iload_n 1, 1) := by decide +kernel
theorem d10_seed_1 : decode (mm_cc M10_seed) 1 = .ok (.ifCond .ge 6, 3) := by decide +kernel
theorem d10_seed_4 : decode (mm_cc M10_seed) 4 = .ok (.ldc 124, 2) := by decide +kernel
theorem d10_seed_6 : decode (mm_cc M10_seed) 6 = .ok (.ireturn, 1) := by decide +kernel
theorem d10_seed_7 : decode (mm_cc M10_seed) 7 = .ok (.aload_n 0, 1) := by decide +kernel
theorem d10_seed_8 : decode (mm_cc M10_seed) 8 = .ok (.getfield 42, 3) := by decide +kernel
theorem d10_seed_11 : decode (mm_cc M10_seed) 11 = .ok (.getfield 359, 3) := by decide +kernel
theorem d10_seed_14 : decode (mm_cc M10_seed) 14 = .ok (.istore_n 2, 1) := by decide +kernel
theorem d10_seed_15 : decode (mm_cc M10_seed) 15 = .ok (.aload_n 0, 1) := by decide +kernel
theorem d10_seed_16 : decode (mm_cc M10_seed) 16 = .ok (.getfield 42, 3) := by decide +kernel
theorem d10_seed_19 : decode (mm_cc M10_seed) 19 = .ok (.iload_n 1, 1) := by decide +kernel
theorem d10_seed_20 : decode (mm_cc M10_seed) 20 = .ok (.putfield 359, 3) := by decide +kernel
theorem d10_seed_23 : decode (mm_cc M10_seed) 23 = .ok (.iload_n 2, 1) := by decide +kernel
theorem d10_seed_24 : decode (mm_cc M10_seed) 24 = .ok (.ireturn, 1) := by decide +kernel
theorem d10_within_0 : decode (mm_cc M10_within) 0 = .ok (.iload_n 0, 1) := by decide +kernel
theorem d10_within_1 : decode (mm_cc M10_within) 1 = .ok (.iload_n 1, 1) := by decide +kernel
theorem d10_within_2 : decode (mm_cc M10_within) 2 = .ok (.if_icmp .lt 12, 3) := by decide +kernel
theorem d10_within_5 : decode (mm_cc M10_within) 5 = .ok (.iload_n 0, 1) := by decide +kernel
theorem d10_within_6 : decode (mm_cc M10_within) 6 = .ok (.iload_n 2, 1) := by decide +kernel
theorem d10_within_7 : decode (mm_cc M10_within) 7 = .ok (.if_icmp .gt 7, 3) := by decide +kernel
theorem d10_within_10 : decode (mm_cc M10_within) 10 = .ok (.iconst 1, 1) := by decide +kernel
theorem d10_within_11 : decode (mm_cc M10_within) 11 = .ok (.goto 4, 3) := by decide +kernel
theorem d10_within_14 : decode (mm_cc M10_within) 14 = .ok (.iconst 0, 1) := by decide +kernel
theorem d10_within_15 : decode (mm_cc M10_within) 15 = .ok (.ireturn, 1) := by decide +kernel
theorem d11_bits_0 : decode (mm_cc M11_bits) 0 = .ok (.iconst 0, 1) := by decide +kernel
theorem d11_bits_1 : decode (mm_cc M11_bits) 1 = .ok (.istore_n 1, 1) := by decide +kernel
theorem d11_bits_2 : decode (mm_cc M11_bits) 2 = .ok (.iconst 0, 1) := by decide +kernel
theorem d11_bits_3 : decode (mm_cc M11_bits) 3 = .ok (.istore_n 2, 1) := by decide +kernel
theorem d11_bits_4 : decode (mm_cc M11_bits) 4 = .ok (.iload_n 2, 1) := by decide +kernel
theorem d11_bits_5 : decode (mm_cc M11_bits) 5 = .ok (.bipush 8, 2) := by decide +kernel
theorem d11_bits_7 : decode (mm_cc M11_bits) 7 = .ok (.if_icmp .ge 17, 3) := by decide +kernel
theorem d11_bits_10 : decode (mm_cc M11_bits) 10 = .ok (.iload_n 1, 1) := by decide +kernel
theorem d11_bits_11 : decode (mm_cc M11_bits) 11 = .ok (.iload_n 0, 1) := by decide +kernel
theorem d11_bits_12 : decode (mm_cc M11_bits) 12 = .ok (.iload_n 2, 1) := by decide +kernel
theorem d11_bits_13 : decode (mm_cc M11_bits) 13 = .ok (.ishr, 1) := by decide +kernel
theorem d11_bits_14 : decode (mm_cc M11_bits) 14 = .ok (.iconst 1, 1) := by decide +kernel
theorem d11_bits_15 : decode (mm_cc M11_bits) 15 = .ok (.iand, 1) := by decide +kernel
theorem d11_bits_16 : decode (mm_cc M11_bits) 16 = .ok (.iadd, 1) := by decide +kernel
theorem d11_bits_17 : decode (mm_cc M11_bits) 17 = .ok (.istore_n 1, 1) := by decide +kernel
theorem d11_bits_18 : decode (mm_cc M11_bits) 18 = .ok (.iinc 2 1, 3) := by decide +kernel
theorem d11_bits_21 : decode (mm_cc M11_bits) 21 = .ok (.goto (-17), 3) := by decide +kernel
theorem d11_bits_24 : decode (mm_cc M11_bits) 24 = .ok (.iload_n 1, 1) := by decide +kernel
theorem d11_bits_25 : decode (mm_cc M11_bits) 25 = .ok (.ireturn, 1) := by decide +kernel
theorem d11_code_0 : decode (mm_cc M11_code) 0 = .ok (.ldc2_w 184, 3) := by decide +kernel
theorem d11_code_3 : decode (mm_cc M11_code) 3 = .ok (.ldc2_w 184, 3) := by decide +kernel
theorem d11_code_6 : decode (mm_cc M11_code) 6 = .ok (.ldc2_w 184, 3) := by decide +kernel
theorem d11_code_9 : decode (mm_cc M11_code) 9 = .ok (.iload_n 0, 1) := by decide +kernel
theorem d11_code_10 : decode (mm_cc M11_code) 10 = .ok (.i2l, 1) := by decide +kernel
theorem d11_code_11 : decode (mm_cc M11_code) 11 = .ok (.ldc2_w 186, 3) := by decide +kernel
theorem d11_code_14 : decode (mm_cc M11_code) 14 = .ok (.lsub, 1) := by decide +kernel
theorem d11_code_15 : decode (mm_cc M11_code) 15 = .ok (.lmul, 1) := by decide +kernel
theorem d11_code_16 : decode (mm_cc M11_code) 16 = .ok (.iload_n 1, 1) := by decide +kernel
theorem d11_code_17 : decode (mm_cc M11_code) 17 = .ok (.i2l, 1) := by decide +kernel
theorem d11_code_18 : decode (mm_cc M11_code) 18 = .ok (.ladd, 1) := by decide +kernel
theorem d11_code_19 : decode (mm_cc M11_code) 19 = .ok (.ldc2_w 186, 3) := by decide +kernel
theorem d11_code_22 : decode (mm_cc M11_code) 22 = .ok (.lsub, 1) := by decide +kernel
theorem d11_code_23 : decode (mm_cc M11_code) 23 = .ok (.lmul, 1) := by decide +kernel
theorem d11_code_24 : decode (mm_cc M11_code) 24 = .ok (.iload_n 2, 1) := by decide +kernel
theorem d11_code_25 : decode (mm_cc M11_code) 25 = .ok (.i2l, 1) := by decide +kernel
theorem d11_code_26 : decode (mm_cc M11_code) 26 = .ok (.ladd, 1) := by decide +kernel
theorem d11_code_27 : decode (mm_cc M11_code) 27 = .ok (.ldc2_w 186, 3) := by decide +kernel
theorem d11_code_30 : decode (mm_cc M11_code) 30 = .ok (.lsub, 1) := by decide +kernel
theorem d11_code_31 : decode (mm_cc M11_code) 31 = .ok (.lmul, 1) := by decide +kernel
theorem d11_code_32 : decode (mm_cc M11_code) 32 = .ok (.iload_n 3, 1) := by decide +kernel
theorem d11_code_33 : decode (mm_cc M11_code) 33 = .ok (.i2l, 1) := by decide +kernel
theorem d11_code_34 : decode (mm_cc M11_code) 34 = .ok (.ladd, 1) := by decide +kernel
theorem d11_code_35 : decode (mm_cc M11_code) 35 = .ok (.ldc2_w 186, 3) := by decide +kernel
theorem d11_code_38 : decode (mm_cc M11_code) 38 = .ok (.lsub, 1) := by decide +kernel
theorem d11_code_39 : decode (mm_cc M11_code) 39 = .ok (.lreturn, 1) := by decide +kernel
theorem d11_die_0 : decode (mm_cc M11_die) 0 = .ok (.aload_n 0, 1) := by decide +kernel
theorem d11_die_1 : decode (mm_cc M11_die) 1 = .ok (.getfield 41, 3) := by decide +kernel
theorem d11_die_4 : decode (mm_cc M11_die) 4 = .ok (.iload_n 1, 1) := by decide +kernel
theorem d11_die_5 : decode (mm_cc M11_die) 5 = .ok (.iconst 0, 1) := by decide +kernel
theorem d11_die_6 : decode (mm_cc M11_die) 6 = .ok (.bastore, 1) := by decide +kernel
theorem d11_die_7 : decode (mm_cc M11_die) 7 = .ok (.iconst 0, 1) := by decide +kernel
theorem d11_die_8 : decode (mm_cc M11_die) 8 = .ok (.istore_n 2, 1) := by decide +kernel
theorem d11_die_9 : decode (mm_cc M11_die) 9 = .ok (.iload_n 2, 1) := by decide +kernel
theorem d11_die_10 : decode (mm_cc M11_die) 10 = .ok (.bipush 6, 2) := by decide +kernel
theorem d11_die_12 : decode (mm_cc M11_die) 12 = .ok (.if_icmp .ge 33, 3) := by decide +kernel
theorem d11_die_15 : decode (mm_cc M11_die) 15 = .ok (.aload_n 0, 1) := by decide +kernel
theorem d11_die_16 : decode (mm_cc M11_die) 16 = .ok (.getfield 45, 3) := by decide +kernel
theorem d11_die_19 : decode (mm_cc M11_die) 19 = .ok (.bipush 6, 2) := by decide +kernel
theorem d11_die_21 : decode (mm_cc M11_die) 21 = .ok (.iload_n 1, 1) := by decide +kernel
theorem d11_die_22 : decode (mm_cc M11_die) 22 = .ok (.imul, 1) := by decide +kernel
theorem d11_die_23 : decode (mm_cc M11_die) 23 = .ok (.iload_n 2, 1) := by decide +kernel
theorem d11_die_24 : decode (mm_cc M11_die) 24 = .ok (.iadd, 1) := by decide +kernel
theorem d11_die_25 : decode (mm_cc M11_die) 25 = .ok (.iconst 0, 1) := by decide +kernel
theorem d11_die_26 : decode (mm_cc M11_die) 26 = .ok (.iastore, 1) := by decide +kernel
theorem d11_die_27 : decode (mm_cc M11_die) 27 = .ok (.aload_n 0, 1) := by decide +kernel
theorem d11_die_28 : decode (mm_cc M11_die) 28 = .ok (.getfield 48, 3) := by decide +kernel
theorem d11_die_31 : decode (mm_cc M11_die) 31 = .ok (.bipush 6, 2) := by decide +kernel
theorem d11_die_33 : decode (mm_cc M11_die) 33 = .ok (.iload_n 1, 1) := by decide +kernel
theorem d11_die_34 : decode (mm_cc M11_die) 34 = .ok (.imul, 1) := by decide +kernel
theorem d11_die_35 : decode (mm_cc M11_die) 35 = .ok (.iload_n 2, 1) := by decide +kernel
theorem d11_die_36 : decode (mm_cc M11_die) 36 = .ok (.iadd, 1) := by decide +kernel
theorem d11_die_37 : decode (mm_cc M11_die) 37 = .ok (.iconst (-1), 1) := by decide +kernel
theorem d11_die_38 : decode (mm_cc M11_die) 38 = .ok (.iastore, 1) := by decide +kernel
theorem d11_die_39 : decode (mm_cc M11_die) 39 = .ok (.iinc 2 1, 3) := by decide +kernel
theorem d11_die_42 : decode (mm_cc M11_die) 42 = .ok (.goto (-33), 3) := by decide +kernel
theorem d11_die_45 : decode (mm_cc M11_die) 45 = .ok (.aload_n 0, 1) := by decide +kernel
theorem d11_die_46 : decode (mm_cc M11_die) 46 = .ok (.getfield 54, 3) := by decide +kernel
theorem d11_die_49 : decode (mm_cc M11_die) 49 = .ok (.iload_n 1, 1) := by decide +kernel
theorem d11_die_50 : decode (mm_cc M11_die) 50 = .ok (.iconst (-1), 1) := by decide +kernel
theorem d11_die_51 : decode (mm_cc M11_die) 51 = .ok (.iastore, 1) := by decide +kernel
theorem d11_die_52 : decode (mm_cc M11_die) 52 = .ok (.aload_n 0, 1) := by decide +kernel
theorem d11_die_53 : decode (mm_cc M11_die) 53 = .ok (.getfield 60, 3) := by decide +kernel
theorem d11_die_56 : decode (mm_cc M11_die) 56 = .ok (.iload_n 1, 1) := by decide +kernel
theorem d11_die_57 : decode (mm_cc M11_die) 57 = .ok (.iconst (-1), 1) := by decide +kernel
theorem d11_die_58 : decode (mm_cc M11_die) 58 = .ok (.iastore, 1) := by decide +kernel
theorem d11_die_59 : decode (mm_cc M11_die) 59 = .ok (.aload_n 0, 1) := by decide +kernel
theorem d11_die_60 : decode (mm_cc M11_die) 60 = .ok (.getfield 51, 3) := by decide +kernel
theorem d11_die_63 : decode (mm_cc M11_die) 63 = .ok (.iload_n 1, 1) := by decide +kernel
theorem d11_die_64 : decode (mm_cc M11_die) 64 = .ok (.iconst (-1), 1) := by decide +kernel
theorem d11_die_65 : decode (mm_cc M11_die) 65 = .ok (.iastore, 1) := by decide +kernel
theorem d11_die_66 : decode (mm_cc M11_die) 66 = .ok (.return_, 1) := by decide +kernel
theorem d11_draw_0 : decode (mm_cc M11_draw) 0 = .ok (.aload_n 0, 1) := by decide +kernel
theorem d11_draw_1 : decode (mm_cc M11_draw) 1 = .ok (.aload_n 0, 1) := by decide +kernel
theorem d11_draw_2 : decode (mm_cc M11_draw) 2 = .ok (.getfield 301, 3) := by decide +kernel
theorem d11_draw_5 : decode (mm_cc M11_draw) 5 = .ok (.i2l, 1) := by decide +kernel
theorem d11_draw_6 : decode (mm_cc M11_draw) 6 = .ok (.ldc2_w 304, 3) := by decide +kernel
theorem d11_draw_9 : decode (mm_cc M11_draw) 9 = .ok (.lmul, 1) := by decide +kernel
theorem d11_draw_10 : decode (mm_cc M11_draw) 10 = .ok (.ldc2_w 306, 3) := by decide +kernel
theorem d11_draw_13 : decode (mm_cc M11_draw) 13 = .ok (.ladd, 1) := by decide +kernel
theorem d11_draw_14 : decode (mm_cc M11_draw) 14 = .ok (.ldc2_w 308, 3) := by decide +kernel
theorem d11_draw_17 : decode (mm_cc M11_draw) 17 = .ok (.lrem, 1) := by decide +kernel
theorem d11_draw_18 : decode (mm_cc M11_draw) 18 = .ok (.l2i, 1) := by decide +kernel
theorem d11_draw_19 : decode (mm_cc M11_draw) 19 = .ok (.putfield 301, 3) := by decide +kernel
theorem d11_draw_22 : decode (mm_cc M11_draw) 22 = .ok (.aload_n 0, 1) := by decide +kernel
theorem d11_draw_23 : decode (mm_cc M11_draw) 23 = .ok (.getfield 301, 3) := by decide +kernel
theorem d11_draw_26 : decode (mm_cc M11_draw) 26 = .ok (.ldc_w 310, 3) := by decide +kernel
theorem d11_draw_29 : decode (mm_cc M11_draw) 29 = .ok (.idiv, 1) := by decide +kernel
theorem d11_draw_30 : decode (mm_cc M11_draw) 30 = .ok (.iload_n 1, 1) := by decide +kernel
theorem d11_draw_31 : decode (mm_cc M11_draw) 31 = .ok (.irem, 1) := by decide +kernel
theorem d11_draw_32 : decode (mm_cc M11_draw) 32 = .ok (.ireturn, 1) := by decide +kernel
theorem d11_fails_0 : decode (mm_cc M11_fails) 0 = .ok (.aload_n 0, 1) := by decide +kernel
theorem d11_fails_1 : decode (mm_cc M11_fails) 1 = .ok (.iload_n 2, 1) := by decide +kernel
theorem d11_fails_2 : decode (mm_cc M11_fails) 2 = .ok (.putfield 78, 3) := by decide +kernel
theorem d11_fails_5 : decode (mm_cc M11_fails) 5 = .ok (.iload_n 1, 1) := by decide +kernel
theorem d11_fails_6 : decode (mm_cc M11_fails) 6 = .ok (.ireturn, 1) := by decide +kernel
theorem d11_fault_0 : decode (mm_cc M11_fault) 0 = .ok (.aload_n 0, 1) := by decide +kernel
theorem d11_fault_1 : decode (mm_cc M11_fault) 1 = .ok (.getfield 78, 3) := by decide +kernel
theorem d11_fault_4 : decode (mm_cc M11_fault) 4 = .ok (.ireturn, 1) := by decide +kernel
theorem d11_forgetOn_0 : decode (mm_cc M11_forgetOn) 0 = .ok (.bipush 6, 2) := by decide +kernel
theorem d11_forgetOn_2 : decode (mm_cc M11_forgetOn) 2 = .ok (.iload_n 1, 1) := by decide +kernel
theorem d11_forgetOn_3 : decode (mm_cc M11_forgetOn) 3 = .ok (.imul, 1) := by decide +kernel
theorem d11_forgetOn_4 : decode (mm_cc M11_forgetOn) 4 = .ok (.iload_n 2, 1) := by decide +kernel
theorem d11_forgetOn_5 : decode (mm_cc M11_forgetOn) 5 = .ok (.iadd, 1) := by decide +kernel
theorem d11_forgetOn_6 : decode (mm_cc M11_forgetOn) 6 = .ok (.istore_n 3, 1) := by decide +kernel
theorem d11_forgetOn_7 : decode (mm_cc M11_forgetOn) 7 = .ok (.aload_n 0, 1) := by decide +kernel
theorem d11_forgetOn_8 : decode (mm_cc M11_forgetOn) 8 = .ok (.getfield 45, 3) := by decide +kernel
theorem d11_forgetOn_11 : decode (mm_cc M11_forgetOn) 11 = .ok (.iload_n 3, 1) := by decide +kernel
theorem d11_forgetOn_12 : decode (mm_cc M11_forgetOn) 12 = .ok (.iaload, 1) := by decide +kernel
theorem d11_forgetOn_13 : decode (mm_cc M11_forgetOn) 13 = .ok (.istore 4, 2) := by decide +kernel
theorem d11_forgetOn_15 : decode (mm_cc M11_forgetOn) 15 = .ok (.iload 4, 2) := by decide +kernel
theorem d11_forgetOn_17 : decode (mm_cc M11_forgetOn) 17 = .ok (.aload_n 0, 1) := by decide +kernel
theorem d11_forgetOn_18 : decode (mm_cc M11_forgetOn) 18 = .ok (.getfield 29, 3) := by decide +kernel
theorem d11_forgetOn_21 : decode (mm_cc M11_forgetOn) 21 = .ok (.isub, 1) := by decide +kernel
theorem d11_forgetOn_22 : decode (mm_cc M11_forgetOn) 22 = .ok (.istore 5, 2) := by decide +kernel
theorem d11_forgetOn_24 : decode (mm_cc M11_forgetOn) 24 = .ok (.aload_n 0, 1) := by decide +kernel
theorem d11_forgetOn_25 : decode (mm_cc M11_forgetOn) 25 = .ok (.getfield 7, 3) := by decide +kernel
theorem d11_forgetOn_28 : decode (mm_cc M11_forgetOn) 28 = .ok (.iconst 4, 1) := by decide +kernel
theorem d11_forgetOn_29 : decode (mm_cc M11_forgetOn) 29 = .ok (.iload_n 2, 1) := by decide +kernel
theorem d11_forgetOn_30 : decode (mm_cc M11_forgetOn) 30 = .ok (.imul, 1) := by decide +kernel
theorem d11_forgetOn_31 : decode (mm_cc M11_forgetOn) 31 = .ok (.iaload, 1) := by decide +kernel
theorem d11_forgetOn_32 : decode (mm_cc M11_forgetOn) 32 = .ok (.iconst 2, 1) := by decide +kernel
theorem d11_forgetOn_33 : decode (mm_cc M11_forgetOn) 33 = .ok (.if_icmp .ne 35, 3) := by decide +kernel
theorem d11_forgetOn_36 : decode (mm_cc M11_forgetOn) 36 = .ok (.iload 4, 2) := by decide +kernel
theorem d11_forgetOn_38 : decode (mm_cc M11_forgetOn) 38 = .ok (.bipush 50, 2) := by decide +kernel
theorem d11_forgetOn_40 : decode (mm_cc M11_forgetOn) 40 = .ok (.if_icmp .lt 28, 3) := by decide +kernel
theorem d11_forgetOn_43 : decode (mm_cc M11_forgetOn) 43 = .ok (.iload 5, 2) := by decide +kernel
theorem d11_forgetOn_45 : decode (mm_cc M11_forgetOn) 45 = .ok (.bipush 50, 2) := by decide +kernel
theorem d11_forgetOn_47 : decode (mm_cc M11_forgetOn) 47 = .ok (.if_icmp .gt 21, 3) := by decide +kernel
theorem d11_forgetOn_50 : decode (mm_cc M11_forgetOn) 50 = .ok (.aload_n 0, 1) := by decide +kernel
theorem d11_forgetOn_51 : decode (mm_cc M11_forgetOn) 51 = .ok (.getfield 45, 3) := by decide +kernel
theorem d11_forgetOn_54 : decode (mm_cc M11_forgetOn) 54 = .ok (.iload_n 3, 1) := by decide +kernel
theorem d11_forgetOn_55 : decode (mm_cc M11_forgetOn) 55 = .ok (.bipush 50, 2) := by decide +kernel
theorem d11_forgetOn_57 : decode (mm_cc M11_forgetOn) 57 = .ok (.iastore, 1) := by decide +kernel
theorem d11_forgetOn_58 : decode (mm_cc M11_forgetOn) 58 = .ok (.aload_n 0, 1) := by decide +kernel
theorem d11_forgetOn_59 : decode (mm_cc M11_forgetOn) 59 = .ok (.getfield 60, 3) := by decide +kernel
theorem d11_forgetOn_62 : decode (mm_cc M11_forgetOn) 62 = .ok (.iload_n 1, 1) := by decide +kernel
theorem d11_forgetOn_63 : decode (mm_cc M11_forgetOn) 63 = .ok (.iconst (-1), 1) := by decide +kernel
theorem d11_forgetOn_64 : decode (mm_cc M11_forgetOn) 64 = .ok (.iastore, 1) := by decide +kernel
theorem d11_forgetOn_65 : decode (mm_cc M11_forgetOn) 65 = .ok (.goto 43, 3) := by decide +kernel
theorem d11_forgetOn_68 : decode (mm_cc M11_forgetOn) 68 = .ok (.iload 5, 2) := by decide +kernel
theorem d11_forgetOn_70 : decode (mm_cc M11_forgetOn) 70 = .ok (.ifCond .gt 30, 3) := by decide +kernel
theorem d11_forgetOn_73 : decode (mm_cc M11_forgetOn) 73 = .ok (.aload_n 0, 1) := by decide +kernel
theorem d11_forgetOn_74 : decode (mm_cc M11_forgetOn) 74 = .ok (.getfield 45, 3) := by decide +kernel
theorem d11_forgetOn_77 : decode (mm_cc M11_forgetOn) 77 = .ok (.iload_n 3, 1) := by decide +kernel
theorem d11_forgetOn_78 : decode (mm_cc M11_forgetOn) 78 = .ok (.iconst 0, 1) := by decide +kernel
theorem d11_forgetOn_79 : decode (mm_cc M11_forgetOn) 79 = .ok (.iastore, 1) := by decide +kernel
theorem d11_forgetOn_80 : decode (mm_cc M11_forgetOn) 80 = .ok (.aload_n 0, 1) := by decide +kernel
theorem d11_forgetOn_81 : decode (mm_cc M11_forgetOn) 81 = .ok (.getfield 60, 3) := by decide +kernel
theorem d11_forgetOn_84 : decode (mm_cc M11_forgetOn) 84 = .ok (.iload_n 1, 1) := by decide +kernel
theorem d11_forgetOn_85 : decode (mm_cc M11_forgetOn) 85 = .ok (.iconst (-1), 1) := by decide +kernel
theorem d11_forgetOn_86 : decode (mm_cc M11_forgetOn) 86 = .ok (.iastore, 1) := by decide +kernel
theorem d11_forgetOn_87 : decode (mm_cc M11_forgetOn) 87 = .ok (.aload_n 0, 1) := by decide +kernel
theorem d11_forgetOn_88 : decode (mm_cc M11_forgetOn) 88 = .ok (.getfield 48, 3) := by decide +kernel
theorem d11_forgetOn_91 : decode (mm_cc M11_forgetOn) 91 = .ok (.iload_n 3, 1) := by decide +kernel
theorem d11_forgetOn_92 : decode (mm_cc M11_forgetOn) 92 = .ok (.aload_n 0, 1) := by decide +kernel
theorem d11_forgetOn_93 : decode (mm_cc M11_forgetOn) 93 = .ok (.getfield 147, 3) := by decide +kernel
theorem d11_forgetOn_96 : decode (mm_cc M11_forgetOn) 96 = .ok (.iastore, 1) := by decide +kernel
theorem d11_forgetOn_97 : decode (mm_cc M11_forgetOn) 97 = .ok (.goto 11, 3) := by decide +kernel
theorem d11_forgetOn_100 : decode (mm_cc M11_forgetOn) 100 = .ok (.aload_n 0, 1) := by decide +kernel
theorem d11_forgetOn_101 : decode (mm_cc M11_forgetOn) 101 = .ok (.getfield 45, 3) := by decide +kernel
theorem d11_forgetOn_104 : decode (mm_cc M11_forgetOn) 104 = .ok (.iload_n 3, 1) := by decide +kernel
theorem d11_forgetOn_105 : decode (mm_cc M11_forgetOn) 105 = .ok (.iload 5, 2) := by decide +kernel
theorem d11_forgetOn_107 : decode (mm_cc M11_forgetOn) 107 = .ok (.iastore, 1) := by decide +kernel
theorem d11_forgetOn_108 : decode (mm_cc M11_forgetOn) 108 = .ok (.return_, 1) := by decide +kernel
theorem d11_has_0 : decode (mm_cc M11_has) 0 = .ok (.iload_n 0, 1) := by decide +kernel
theorem d11_has_1 : decode (mm_cc M11_has) 1 = .ok (.iload_n 1, 1) := by decide +kernel
theorem d11_has_2 : decode (mm_cc M11_has) 2 = .ok (.ishr, 1) := by decide +kernel
theorem d11_has_3 : decode (mm_cc M11_has) 3 = .ok (.iconst 1, 1) := by decide +kernel
theorem d11_has_4 : decode (mm_cc M11_has) 4 = .ok (.iand, 1) := by decide +kernel
theorem d11_has_5 : decode (mm_cc M11_has) 5 = .ok (.iconst 1, 1) := by decide +kernel
theorem d11_has_6 : decode (mm_cc M11_has) 6 = .ok (.if_icmp .ne 7, 3) := by decide +kernel
theorem d11_has_9 : decode (mm_cc M11_has) 9 = .ok (.iconst 1, 1) := by decide +kernel
theorem d11_has_10 : decode (mm_cc M11_has) 10 = .ok (.goto 4, 3) := by decide +kernel
theorem d11_has_13 : decode (mm_cc M11_has) 13 = .ok (.iconst 0, 1) := by decide +kernel
theorem d11_has_14 : decode (mm_cc M11_has) 14 = .ok (.ireturn, 1) := by decide +kernel
theorem d11_here_0 : decode (mm_cc M11_here) 0 = .ok (.aload_n 0, 1) := by decide +kernel
theorem d11_here_1 : decode (mm_cc M11_here) 1 = .ok (.getfield 163, 3) := by decide +kernel
theorem d11_here_4 : decode (mm_cc M11_here) 4 = .ok (.aload_n 0, 1) := by decide +kernel
theorem d11_here_5 : decode (mm_cc M11_here) 5 = .ok (.getfield 157, 3) := by decide +kernel
theorem d11_here_8 : decode (mm_cc M11_here) 8 = .ok (.if_icmp .ge 30, 3) := by decide +kernel
theorem d11_here_11 : decode (mm_cc M11_here) 11 = .ok (.aload_n 0, 1) := by decide +kernel
theorem d11_here_12 : decode (mm_cc M11_here) 12 = .ok (.getfield 75, 3) := by decide +kernel
theorem d11_here_15 : decode (mm_cc M11_here) 15 = .ok (.aload_n 0, 1) := by decide +kernel
theorem d11_here_16 : decode (mm_cc M11_here) 16 = .ok (.getfield 163, 3) := by decide +kernel
theorem d11_here_19 : decode (mm_cc M11_here) 19 = .ok (.iaload, 1) := by decide +kernel
theorem d11_here_20 : decode (mm_cc M11_here) 20 = .ok (.bipush 32, 2) := by decide +kernel
theorem d11_here_22 : decode (mm_cc M11_here) 22 = .ok (.if_icmp .ne 16, 3) := by decide +kernel
theorem d11_here_25 : decode (mm_cc M11_here) 25 = .ok (.aload_n 0, 1) := by decide +kernel
theorem d11_here_26 : decode (mm_cc M11_here) 26 = .ok (.dup, 1) := by decide +kernel
theorem d11_here_27 : decode (mm_cc M11_here) 27 = .ok (.getfield 163, 3) := by decide +kernel
theorem d11_here_30 : decode (mm_cc M11_here) 30 = .ok (.iconst 1, 1) := by decide +kernel
theorem d11_here_31 : decode (mm_cc M11_here) 31 = .ok (.iadd, 1) := by decide +kernel
theorem d11_here_32 : decode (mm_cc M11_here) 32 = .ok (.putfield 163, 3) := by decide +kernel
theorem d11_here_35 : decode (mm_cc M11_here) 35 = .ok (.goto (-35), 3) := by decide +kernel
theorem d11_here_38 : decode (mm_cc M11_here) 38 = .ok (.aload_n 0, 1) := by decide +kernel
theorem d11_here_39 : decode (mm_cc M11_here) 39 = .ok (.getfield 163, 3) := by decide +kernel
theorem d11_here_42 : decode (mm_cc M11_here) 42 = .ok (.aload_n 0, 1) := by decide +kernel
theorem d11_here_43 : decode (mm_cc M11_here) 43 = .ok (.getfield 157, 3) := by decide +kernel
theorem d11_here_46 : decode (mm_cc M11_here) 46 = .ok (.if_icmp .ge 15, 3) := by decide +kernel
theorem d11_here_49 : decode (mm_cc M11_here) 49 = .ok (.aload_n 0, 1) := by decide +kernel
theorem d11_here_50 : decode (mm_cc M11_here) 50 = .ok (.getfield 75, 3) := by decide +kernel
theorem d11_here_53 : decode (mm_cc M11_here) 53 = .ok (.aload_n 0, 1) := by decide +kernel
theorem d11_here_54 : decode (mm_cc M11_here) 54 = .ok (.getfield 163, 3) := by decide +kernel
theorem d11_here_57 : decode (mm_cc M11_here) 57 = .ok (.iaload, 1) := by decide +kernel
theorem d11_here_58 : decode (mm_cc M11_here) 58 = .ok (.goto 4, 3) := by decide +kernel
theorem d11_here_61 : decode (mm_cc M11_here) 61 = .ok (.iconst (-1), 1) := by decide +kernel
theorem d11_here_62 : decode (mm_cc M11_here) 62 = .ok (.ireturn, 1) := by decide +kernel
theorem d11_in_0 : decode (mm_cc M11_in) 0 = .ok (.lload_n 0, 1) := by decide +kernel
theorem d11_in_1 : decode (mm_cc M11_in) 1 = .ok (.lload_n 2, 1) := by decide +kernel
theorem d11_in_2 : decode (mm_cc M11_in) 2 = .ok (.lcmp, 1) := by decide +kernel
theorem d11_in_3 : decode (mm_cc M11_in) 3 = .ok (.ifCond .lt 14, 3) := by decide +kernel
theorem d11_in_6 : decode (mm_cc M11_in) 6 = .ok (.lload_n 0, 1) := by decide +kernel
theorem d11_in_7 : decode (mm_cc M11_in) 7 = .ok (.lload 4, 2) := by decide +kernel
theorem d11_in_9 : decode (mm_cc M11_in) 9 = .ok (.lcmp, 1) := by decide +kernel
theorem d11_in_10 : decode (mm_cc M11_in) 10 = .ok (.ifCond .gt 7, 3) := by decide +kernel
theorem d11_in_13 : decode (mm_cc M11_in) 13 = .ok (.iconst 1, 1) := by decide +kernel
theorem d11_in_14 : decode (mm_cc M11_in) 14 = .ok (.goto 4, 3) := by decide +kernel
theorem d11_in_17 : decode (mm_cc M11_in) 17 = .ok (.iconst 0, 1) := by decide +kernel
theorem d11_in_18 : decode (mm_cc M11_in) 18 = .ok (.ireturn, 1) := by decide +kernel
theorem d11_judge_0 : decode (mm_cc M11_judge) 0 = .ok (.iconst 0, 1) := by decide +kernel
theorem d11_judge_1 : decode (mm_cc M11_judge) 1 = .ok (.istore_n 1, 1) := by decide +kernel
theorem d11_judge_2 : decode (mm_cc M11_judge) 2 = .ok (.iload_n 1, 1) := by decide +kernel
theorem d11_judge_3 : decode (mm_cc M11_judge) 3 = .ok (.aload_n 0, 1) := by decide +kernel
theorem d11_judge_4 : decode (mm_cc M11_judge) 4 = .ok (.getfield 247, 3) := by decide +kernel
theorem d11_judge_7 : decode (mm_cc M11_judge) 7 = .ok (.if_icmp .ge 41, 3) := by decide +kernel
theorem d11_judge_10 : decode (mm_cc M11_judge) 10 = .ok (.aload_n 0, 1) := by decide +kernel
theorem d11_judge_11 : decode (mm_cc M11_judge) 11 = .ok (.getfield 45, 3) := by decide +kernel
theorem d11_judge_14 : decode (mm_cc M11_judge) 14 = .ok (.bipush 6, 2) := by decide +kernel
theorem d11_judge_16 : decode (mm_cc M11_judge) 16 = .ok (.aload_n 0, 1) := by decide +kernel
theorem d11_judge_17 : decode (mm_cc M11_judge) 17 = .ok (.getfield 114, 3) := by decide +kernel
theorem d11_judge_20 : decode (mm_cc M11_judge) 20 = .ok (.iload_n 1, 1) := by decide +kernel
theorem d11_judge_21 : decode (mm_cc M11_judge) 21 = .ok (.iaload, 1) := by decide +kernel
theorem d11_judge_22 : decode (mm_cc M11_judge) 22 = .ok (.imul, 1) := by decide +kernel
theorem d11_judge_23 : decode (mm_cc M11_judge) 23 = .ok (.aload_n 0, 1) := by decide +kernel
theorem d11_judge_24 : decode (mm_cc M11_judge) 24 = .ok (.getfield 117, 3) := by decide +kernel
theorem d11_judge_27 : decode (mm_cc M11_judge) 27 = .ok (.iload_n 1, 1) := by decide +kernel
theorem d11_judge_28 : decode (mm_cc M11_judge) 28 = .ok (.iaload, 1) := by decide +kernel
theorem d11_judge_29 : decode (mm_cc M11_judge) 29 = .ok (.iadd, 1) := by decide +kernel
theorem d11_judge_30 : decode (mm_cc M11_judge) 30 = .ok (.iaload, 1) := by decide +kernel
theorem d11_judge_31 : decode (mm_cc M11_judge) 31 = .ok (.aload_n 0, 1) := by decide +kernel
theorem d11_judge_32 : decode (mm_cc M11_judge) 32 = .ok (.getfield 120, 3) := by decide +kernel
theorem d11_judge_35 : decode (mm_cc M11_judge) 35 = .ok (.iload_n 1, 1) := by decide +kernel
theorem d11_judge_36 : decode (mm_cc M11_judge) 36 = .ok (.iaload, 1) := by decide +kernel
theorem d11_judge_37 : decode (mm_cc M11_judge) 37 = .ok (.if_icmp .eq 5, 3) := by decide +kernel
theorem d11_judge_40 : decode (mm_cc M11_judge) 40 = .ok (.iload_n 1, 1) := by decide +kernel
theorem d11_judge_41 : decode (mm_cc M11_judge) 41 = .ok (.ireturn, 1) := by decide +kernel
theorem d11_judge_42 : decode (mm_cc M11_judge) 42 = .ok (.iinc 1 1, 3) := by decide +kernel
theorem d11_judge_45 : decode (mm_cc M11_judge) 45 = .ok (.goto (-43), 3) := by decide +kernel
theorem d11_judge_48 : decode (mm_cc M11_judge) 48 = .ok (.iconst (-1), 1) := by decide +kernel
theorem d11_judge_49 : decode (mm_cc M11_judge) 49 = .ok (.ireturn, 1) := by decide +kernel
theorem d11_knowers_0 : decode (mm_cc M11_knowers) 0 = .ok (.iconst 0, 1) := by decide +kernel
theorem d11_knowers_1 : decode (mm_cc M11_knowers) 1 = .ok (.istore_n 3, 1) := by decide +kernel
theorem d11_knowers_2 : decode (mm_cc M11_knowers) 2 = .ok (.iconst 0, 1) := by decide +kernel
theorem d11_knowers_3 : decode (mm_cc M11_knowers) 3 = .ok (.istore 4, 2) := by decide +kernel
theorem d11_knowers_5 : decode (mm_cc M11_knowers) 5 = .ok (.iload 4, 2) := by decide +kernel
theorem d11_knowers_7 : decode (mm_cc M11_knowers) 7 = .ok (.aload_n 0, 1) := by decide +kernel
theorem d11_knowers_8 : decode (mm_cc M11_knowers) 8 = .ok (.getfield 140, 3) := by decide +kernel
theorem d11_knowers_11 : decode (mm_cc M11_knowers) 11 = .ok (.if_icmp .ge 46, 3) := by decide +kernel
theorem d11_knowers_14 : decode (mm_cc M11_knowers) 14 = .ok (.iload_n 3, 1) := by decide +kernel
theorem d11_knowers_15 : decode (mm_cc M11_knowers) 15 = .ok (.aload_n 0, 1) := by decide +kernel
theorem d11_knowers_16 : decode (mm_cc M11_knowers) 16 = .ok (.getfield 41, 3) := by decide +kernel
theorem d11_knowers_19 : decode (mm_cc M11_knowers) 19 = .ok (.iload 4, 2) := by decide +kernel
theorem d11_knowers_21 : decode (mm_cc M11_knowers) 21 = .ok (.baload, 1) := by decide +kernel
theorem d11_knowers_22 : decode (mm_cc M11_knowers) 22 = .ok (.ifCond .eq 26, 3) := by decide +kernel
theorem d11_knowers_25 : decode (mm_cc M11_knowers) 25 = .ok (.aload_n 0, 1) := by decide +kernel
theorem d11_knowers_26 : decode (mm_cc M11_knowers) 26 = .ok (.getfield 45, 3) := by decide +kernel
theorem d11_knowers_29 : decode (mm_cc M11_knowers) 29 = .ok (.bipush 6, 2) := by decide +kernel
theorem d11_knowers_31 : decode (mm_cc M11_knowers) 31 = .ok (.iload 4, 2) := by decide +kernel
theorem d11_knowers_33 : decode (mm_cc M11_knowers) 33 = .ok (.imul, 1) := by decide +kernel
theorem d11_knowers_34 : decode (mm_cc M11_knowers) 34 = .ok (.iload_n 1, 1) := by decide +kernel
theorem d11_knowers_35 : decode (mm_cc M11_knowers) 35 = .ok (.iadd, 1) := by decide +kernel
theorem d11_knowers_36 : decode (mm_cc M11_knowers) 36 = .ok (.iaload, 1) := by decide +kernel
theorem d11_knowers_37 : decode (mm_cc M11_knowers) 37 = .ok (.iload_n 2, 1) := by decide +kernel
theorem d11_knowers_38 : decode (mm_cc M11_knowers) 38 = .ok (.if_icmp .lt 10, 3) := by decide +kernel
theorem d11_knowers_41 : decode (mm_cc M11_knowers) 41 = .ok (.iconst 1, 1) := by decide +kernel
theorem d11_knowers_42 : decode (mm_cc M11_knowers) 42 = .ok (.iload 4, 2) := by decide +kernel
theorem d11_knowers_44 : decode (mm_cc M11_knowers) 44 = .ok (.ishl, 1) := by decide +kernel
theorem d11_knowers_45 : decode (mm_cc M11_knowers) 45 = .ok (.goto 4, 3) := by decide +kernel
theorem d11_knowers_48 : decode (mm_cc M11_knowers) 48 = .ok (.iconst 0, 1) := by decide +kernel
theorem d11_knowers_49 : decode (mm_cc M11_knowers) 49 = .ok (.ior, 1) := by decide +kernel
theorem d11_knowers_50 : decode (mm_cc M11_knowers) 50 = .ok (.istore_n 3, 1) := by decide +kernel
theorem d11_knowers_51 : decode (mm_cc M11_knowers) 51 = .ok (.iinc 4 1, 3) := by decide +kernel
theorem d11_knowers_54 : decode (mm_cc M11_knowers) 54 = .ok (.goto (-49), 3) := by decide +kernel
theorem d11_knowers_57 : decode (mm_cc M11_knowers) 57 = .ok (.iload_n 3, 1) := by decide +kernel
theorem d11_knowers_58 : decode (mm_cc M11_knowers) 58 = .ok (.ireturn, 1) := by decide +kernel
theorem d11_knows_0 : decode (mm_cc M11_knows) 0 = .ok (.aload_n 0, 1) := by decide +kernel
theorem d11_knows_1 : decode (mm_cc M11_knows) 1 = .ok (.getfield 45, 3) := by decide +kernel
theorem d11_knows_4 : decode (mm_cc M11_knows) 4 = .ok (.bipush 6, 2) := by decide +kernel
theorem d11_knows_6 : decode (mm_cc M11_knows) 6 = .ok (.iload_n 1, 1) := by decide +kernel
theorem d11_knows_7 : decode (mm_cc M11_knows) 7 = .ok (.imul, 1) := by decide +kernel
theorem d11_knows_8 : decode (mm_cc M11_knows) 8 = .ok (.iload_n 2, 1) := by decide +kernel
theorem d11_knows_9 : decode (mm_cc M11_knows) 9 = .ok (.iadd, 1) := by decide +kernel
theorem d11_knows_10 : decode (mm_cc M11_knows) 10 = .ok (.iaload, 1) := by decide +kernel
theorem d11_knows_11 : decode (mm_cc M11_knows) 11 = .ok (.ifCond .le 7, 3) := by decide +kernel
theorem d11_knows_14 : decode (mm_cc M11_knows) 14 = .ok (.iconst 1, 1) := by decide +kernel
theorem d11_knows_15 : decode (mm_cc M11_knows) 15 = .ok (.goto 4, 3) := by decide +kernel
theorem d11_knows_18 : decode (mm_cc M11_knows) 18 = .ok (.iconst 0, 1) := by decide +kernel
theorem d11_knows_19 : decode (mm_cc M11_knows) 19 = .ok (.ireturn, 1) := by decide +kernel
theorem d11_learnOn_0 : decode (mm_cc M11_learnOn) 0 = .ok (.bipush 6, 2) := by decide +kernel
theorem d11_learnOn_2 : decode (mm_cc M11_learnOn) 2 = .ok (.iload_n 1, 1) := by decide +kernel
theorem d11_learnOn_3 : decode (mm_cc M11_learnOn) 3 = .ok (.imul, 1) := by decide +kernel
theorem d11_learnOn_4 : decode (mm_cc M11_learnOn) 4 = .ok (.iload_n 2, 1) := by decide +kernel
theorem d11_learnOn_5 : decode (mm_cc M11_learnOn) 5 = .ok (.iadd, 1) := by decide +kernel
theorem d11_learnOn_6 : decode (mm_cc M11_learnOn) 6 = .ok (.istore_n 3, 1) := by decide +kernel
theorem d11_learnOn_7 : decode (mm_cc M11_learnOn) 7 = .ok (.aload_n 0, 1) := by decide +kernel
theorem d11_learnOn_8 : decode (mm_cc M11_learnOn) 8 = .ok (.getfield 57, 3) := by decide +kernel
theorem d11_learnOn_11 : decode (mm_cc M11_learnOn) 11 = .ok (.iload_n 1, 1) := by decide +kernel
theorem d11_learnOn_12 : decode (mm_cc M11_learnOn) 12 = .ok (.dup2, 1) := by decide +kernel
theorem d11_learnOn_13 : decode (mm_cc M11_learnOn) 13 = .ok (.iaload, 1) := by decide +kernel
theorem d11_learnOn_14 : decode (mm_cc M11_learnOn) 14 = .ok (.iconst 1, 1) := by decide +kernel
theorem d11_learnOn_15 : decode (mm_cc M11_learnOn) 15 = .ok (.iadd, 1) := by decide +kernel
theorem d11_learnOn_16 : decode (mm_cc M11_learnOn) 16 = .ok (.iastore, 1) := by decide +kernel
theorem d11_learnOn_17 : decode (mm_cc M11_learnOn) 17 = .ok (.aload_n 0, 1) := by decide +kernel
theorem d11_learnOn_18 : decode (mm_cc M11_learnOn) 18 = .ok (.getfield 7, 3) := by decide +kernel
theorem d11_learnOn_21 : decode (mm_cc M11_learnOn) 21 = .ok (.iconst 4, 1) := by decide +kernel
theorem d11_learnOn_22 : decode (mm_cc M11_learnOn) 22 = .ok (.iload_n 2, 1) := by decide +kernel
theorem d11_learnOn_23 : decode (mm_cc M11_learnOn) 23 = .ok (.imul, 1) := by decide +kernel
theorem d11_learnOn_24 : decode (mm_cc M11_learnOn) 24 = .ok (.iconst 1, 1) := by decide +kernel
theorem d11_learnOn_25 : decode (mm_cc M11_learnOn) 25 = .ok (.iadd, 1) := by decide +kernel
theorem d11_learnOn_26 : decode (mm_cc M11_learnOn) 26 = .ok (.iaload, 1) := by decide +kernel
theorem d11_learnOn_27 : decode (mm_cc M11_learnOn) 27 = .ok (.istore 4, 2) := by decide +kernel
theorem d11_learnOn_29 : decode (mm_cc M11_learnOn) 29 = .ok (.aload_n 0, 1) := by decide +kernel
theorem d11_learnOn_30 : decode (mm_cc M11_learnOn) 30 = .ok (.getfield 45, 3) := by decide +kernel
theorem d11_learnOn_33 : decode (mm_cc M11_learnOn) 33 = .ok (.iload_n 3, 1) := by decide +kernel
theorem d11_learnOn_34 : decode (mm_cc M11_learnOn) 34 = .ok (.iaload, 1) := by decide +kernel
theorem d11_learnOn_35 : decode (mm_cc M11_learnOn) 35 = .ok (.bipush 100, 2) := by decide +kernel
theorem d11_learnOn_37 : decode (mm_cc M11_learnOn) 37 = .ok (.iload 4, 2) := by decide +kernel
theorem d11_learnOn_39 : decode (mm_cc M11_learnOn) 39 = .ok (.idiv, 1) := by decide +kernel
theorem d11_learnOn_40 : decode (mm_cc M11_learnOn) 40 = .ok (.iadd, 1) := by decide +kernel
theorem d11_learnOn_41 : decode (mm_cc M11_learnOn) 41 = .ok (.istore 5, 2) := by decide +kernel
theorem d11_learnOn_43 : decode (mm_cc M11_learnOn) 43 = .ok (.aload_n 0, 1) := by decide +kernel
theorem d11_learnOn_44 : decode (mm_cc M11_learnOn) 44 = .ok (.getfield 45, 3) := by decide +kernel
theorem d11_learnOn_47 : decode (mm_cc M11_learnOn) 47 = .ok (.iload_n 3, 1) := by decide +kernel
theorem d11_learnOn_48 : decode (mm_cc M11_learnOn) 48 = .ok (.aload_n 0, 1) := by decide +kernel
theorem d11_learnOn_49 : decode (mm_cc M11_learnOn) 49 = .ok (.getfield 57, 3) := by decide +kernel
theorem d11_learnOn_52 : decode (mm_cc M11_learnOn) 52 = .ok (.iload_n 1, 1) := by decide +kernel
theorem d11_learnOn_53 : decode (mm_cc M11_learnOn) 53 = .ok (.iaload, 1) := by decide +kernel
theorem d11_learnOn_54 : decode (mm_cc M11_learnOn) 54 = .ok (.iload 4, 2) := by decide +kernel
theorem d11_learnOn_56 : decode (mm_cc M11_learnOn) 56 = .ok (.if_icmp .ge 10, 3) := by decide +kernel
theorem d11_learnOn_59 : decode (mm_cc M11_learnOn) 59 = .ok (.iload 5, 2) := by decide +kernel
theorem d11_learnOn_61 : decode (mm_cc M11_learnOn) 61 = .ok (.bipush 100, 2) := by decide +kernel
theorem d11_learnOn_63 : decode (mm_cc M11_learnOn) 63 = .ok (.if_icmp .le 8, 3) := by decide +kernel
theorem d11_learnOn_66 : decode (mm_cc M11_learnOn) 66 = .ok (.bipush 100, 2) := by decide +kernel
theorem d11_learnOn_68 : decode (mm_cc M11_learnOn) 68 = .ok (.goto 5, 3) := by decide +kernel
theorem d11_learnOn_71 : decode (mm_cc M11_learnOn) 71 = .ok (.iload 5, 2) := by decide +kernel
theorem d11_learnOn_73 : decode (mm_cc M11_learnOn) 73 = .ok (.iastore, 1) := by decide +kernel
theorem d11_learnOn_74 : decode (mm_cc M11_learnOn) 74 = .ok (.aload_n 0, 1) := by decide +kernel
theorem d11_learnOn_75 : decode (mm_cc M11_learnOn) 75 = .ok (.getfield 54, 3) := by decide +kernel
theorem d11_learnOn_78 : decode (mm_cc M11_learnOn) 78 = .ok (.iload_n 1, 1) := by decide +kernel
theorem d11_learnOn_79 : decode (mm_cc M11_learnOn) 79 = .ok (.aload_n 0, 1) := by decide +kernel
theorem d11_learnOn_80 : decode (mm_cc M11_learnOn) 80 = .ok (.getfield 45, 3) := by decide +kernel
theorem d11_learnOn_83 : decode (mm_cc M11_learnOn) 83 = .ok (.iload_n 3, 1) := by decide +kernel
theorem d11_learnOn_84 : decode (mm_cc M11_learnOn) 84 = .ok (.iaload, 1) := by decide +kernel
theorem d11_learnOn_85 : decode (mm_cc M11_learnOn) 85 = .ok (.bipush 100, 2) := by decide +kernel
theorem d11_learnOn_87 : decode (mm_cc M11_learnOn) 87 = .ok (.if_icmp .ne 7, 3) := by decide +kernel
theorem d11_learnOn_90 : decode (mm_cc M11_learnOn) 90 = .ok (.iconst (-1), 1) := by decide +kernel
theorem d11_learnOn_91 : decode (mm_cc M11_learnOn) 91 = .ok (.goto 4, 3) := by decide +kernel
theorem d11_learnOn_94 : decode (mm_cc M11_learnOn) 94 = .ok (.iload_n 2, 1) := by decide +kernel
theorem d11_learnOn_95 : decode (mm_cc M11_learnOn) 95 = .ok (.iastore, 1) := by decide +kernel
theorem d11_learnOn_96 : decode (mm_cc M11_learnOn) 96 = .ok (.return_, 1) := by decide +kernel
theorem d11_livesSet_0 : decode (mm_cc M11_livesSet) 0 = .ok (.iconst 0, 1) := by decide +kernel
theorem d11_livesSet_1 : decode (mm_cc M11_livesSet) 1 = .ok (.istore_n 1, 1) := by decide +kernel
theorem d11_livesSet_2 : decode (mm_cc M11_livesSet) 2 = .ok (.iconst 0, 1) := by decide +kernel
theorem d11_livesSet_3 : decode (mm_cc M11_livesSet) 3 = .ok (.istore_n 2, 1) := by decide +kernel
theorem d11_livesSet_4 : decode (mm_cc M11_livesSet) 4 = .ok (.iload_n 2, 1) := by decide +kernel
theorem d11_livesSet_5 : decode (mm_cc M11_livesSet) 5 = .ok (.aload_n 0, 1) := by decide +kernel
theorem d11_livesSet_6 : decode (mm_cc M11_livesSet) 6 = .ok (.getfield 140, 3) := by decide +kernel
theorem d11_livesSet_9 : decode (mm_cc M11_livesSet) 9 = .ok (.if_icmp .ge 28, 3) := by decide +kernel
theorem d11_livesSet_12 : decode (mm_cc M11_livesSet) 12 = .ok (.iload_n 1, 1) := by decide +kernel
theorem d11_livesSet_13 : decode (mm_cc M11_livesSet) 13 = .ok (.aload_n 0, 1) := by decide +kernel
theorem d11_livesSet_14 : decode (mm_cc M11_livesSet) 14 = .ok (.getfield 41, 3) := by decide +kernel
theorem d11_livesSet_17 : decode (mm_cc M11_livesSet) 17 = .ok (.iload_n 2, 1) := by decide +kernel
theorem d11_livesSet_18 : decode (mm_cc M11_livesSet) 18 = .ok (.baload, 1) := by decide +kernel
theorem d11_livesSet_19 : decode (mm_cc M11_livesSet) 19 = .ok (.ifCond .eq 9, 3) := by decide +kernel
theorem d11_livesSet_22 : decode (mm_cc M11_livesSet) 22 = .ok (.iconst 1, 1) := by decide +kernel
theorem d11_livesSet_23 : decode (mm_cc M11_livesSet) 23 = .ok (.iload_n 2, 1) := by decide +kernel
theorem d11_livesSet_24 : decode (mm_cc M11_livesSet) 24 = .ok (.ishl, 1) := by decide +kernel
theorem d11_livesSet_25 : decode (mm_cc M11_livesSet) 25 = .ok (.goto 4, 3) := by decide +kernel
theorem d11_livesSet_28 : decode (mm_cc M11_livesSet) 28 = .ok (.iconst 0, 1) := by decide +kernel
theorem d11_livesSet_29 : decode (mm_cc M11_livesSet) 29 = .ok (.ior, 1) := by decide +kernel
theorem d11_livesSet_30 : decode (mm_cc M11_livesSet) 30 = .ok (.istore_n 1, 1) := by decide +kernel
theorem d11_livesSet_31 : decode (mm_cc M11_livesSet) 31 = .ok (.iinc 2 1, 3) := by decide +kernel
theorem d11_livesSet_34 : decode (mm_cc M11_livesSet) 34 = .ok (.goto (-30), 3) := by decide +kernel
theorem d11_livesSet_37 : decode (mm_cc M11_livesSet) 37 = .ok (.iload_n 1, 1) := by decide +kernel
theorem d11_livesSet_38 : decode (mm_cc M11_livesSet) 38 = .ok (.ireturn, 1) := by decide +kernel
theorem d11_load_0 : decode (mm_cc M11_load) 0 = .ok (.sipush 180, 3) := by decide +kernel
theorem d11_load_3 : decode (mm_cc M11_load) 3 = .ok (.iload_n 1, 1) := by decide +kernel
theorem d11_load_4 : decode (mm_cc M11_load) 4 = .ok (.imul, 1) := by decide +kernel
theorem d11_load_5 : decode (mm_cc M11_load) 5 = .ok (.istore_n 2, 1) := by decide +kernel
theorem d11_load_6 : decode (mm_cc M11_load) 6 = .ok (.iconst 0, 1) := by decide +kernel
theorem d11_load_7 : decode (mm_cc M11_load) 7 = .ok (.istore_n 3, 1) := by decide +kernel
theorem d11_load_8 : decode (mm_cc M11_load) 8 = .ok (.iload_n 3, 1) := by decide +kernel
theorem d11_load_9 : decode (mm_cc M11_load) 9 = .ok (.bipush 48, 2) := by decide +kernel
theorem d11_load_11 : decode (mm_cc M11_load) 11 = .ok (.if_icmp .ge 40, 3) := by decide +kernel
theorem d11_load_14 : decode (mm_cc M11_load) 14 = .ok (.aload_n 0, 1) := by decide +kernel
theorem d11_load_15 : decode (mm_cc M11_load) 15 = .ok (.getfield 45, 3) := by decide +kernel
theorem d11_load_18 : decode (mm_cc M11_load) 18 = .ok (.iload_n 3, 1) := by decide +kernel
theorem d11_load_19 : decode (mm_cc M11_load) 19 = .ok (.aload_n 0, 1) := by decide +kernel
theorem d11_load_20 : decode (mm_cc M11_load) 20 = .ok (.getfield 123, 3) := by decide +kernel
theorem d11_load_23 : decode (mm_cc M11_load) 23 = .ok (.iload_n 2, 1) := by decide +kernel
theorem d11_load_24 : decode (mm_cc M11_load) 24 = .ok (.iload_n 3, 1) := by decide +kernel
theorem d11_load_25 : decode (mm_cc M11_load) 25 = .ok (.iadd, 1) := by decide +kernel
theorem d11_load_26 : decode (mm_cc M11_load) 26 = .ok (.iaload, 1) := by decide +kernel
theorem d11_load_27 : decode (mm_cc M11_load) 27 = .ok (.iastore, 1) := by decide +kernel
theorem d11_load_28 : decode (mm_cc M11_load) 28 = .ok (.aload_n 0, 1) := by decide +kernel
theorem d11_load_29 : decode (mm_cc M11_load) 29 = .ok (.getfield 48, 3) := by decide +kernel
theorem d11_load_32 : decode (mm_cc M11_load) 32 = .ok (.iload_n 3, 1) := by decide +kernel
theorem d11_load_33 : decode (mm_cc M11_load) 33 = .ok (.aload_n 0, 1) := by decide +kernel
theorem d11_load_34 : decode (mm_cc M11_load) 34 = .ok (.getfield 123, 3) := by decide +kernel
theorem d11_load_37 : decode (mm_cc M11_load) 37 = .ok (.iload_n 2, 1) := by decide +kernel
theorem d11_load_38 : decode (mm_cc M11_load) 38 = .ok (.bipush 48, 2) := by decide +kernel
theorem d11_load_40 : decode (mm_cc M11_load) 40 = .ok (.iadd, 1) := by decide +kernel
theorem d11_load_41 : decode (mm_cc M11_load) 41 = .ok (.iload_n 3, 1) := by decide +kernel
theorem d11_load_42 : decode (mm_cc M11_load) 42 = .ok (.iadd, 1) := by decide +kernel
theorem d11_load_43 : decode (mm_cc M11_load) 43 = .ok (.iaload, 1) := by decide +kernel
theorem d11_load_44 : decode (mm_cc M11_load) 44 = .ok (.iastore, 1) := by decide +kernel
theorem d11_load_45 : decode (mm_cc M11_load) 45 = .ok (.iinc 3 1, 3) := by decide +kernel
theorem d11_load_48 : decode (mm_cc M11_load) 48 = .ok (.goto (-40), 3) := by decide +kernel
theorem d11_load_51 : decode (mm_cc M11_load) 51 = .ok (.iconst 0, 1) := by decide +kernel
theorem d11_load_52 : decode (mm_cc M11_load) 52 = .ok (.istore_n 3, 1) := by decide +kernel
theorem d11_load_53 : decode (mm_cc M11_load) 53 = .ok (.iload_n 3, 1) := by decide +kernel
theorem d11_load_54 : decode (mm_cc M11_load) 54 = .ok (.bipush 8, 2) := by decide +kernel
theorem d11_load_56 : decode (mm_cc M11_load) 56 = .ok (.if_icmp .ge 194, 3) := by decide +kernel
theorem d11_load_59 : decode (mm_cc M11_load) 59 = .ok (.aload_n 0, 1) := by decide +kernel
theorem d11_load_60 : decode (mm_cc M11_load) 60 = .ok (.getfield 38, 3) := by decide +kernel
theorem d11_load_63 : decode (mm_cc M11_load) 63 = .ok (.iload_n 3, 1) := by decide +kernel
theorem d11_load_64 : decode (mm_cc M11_load) 64 = .ok (.aload_n 0, 1) := by decide +kernel
theorem d11_load_65 : decode (mm_cc M11_load) 65 = .ok (.getfield 123, 3) := by decide +kernel
theorem d11_load_68 : decode (mm_cc M11_load) 68 = .ok (.iload_n 2, 1) := by decide +kernel
theorem d11_load_69 : decode (mm_cc M11_load) 69 = .ok (.bipush 96, 2) := by decide +kernel
theorem d11_load_71 : decode (mm_cc M11_load) 71 = .ok (.iadd, 1) := by decide +kernel
theorem d11_load_72 : decode (mm_cc M11_load) 72 = .ok (.iload_n 3, 1) := by decide +kernel
theorem d11_load_73 : decode (mm_cc M11_load) 73 = .ok (.iadd, 1) := by decide +kernel
theorem d11_load_74 : decode (mm_cc M11_load) 74 = .ok (.iaload, 1) := by decide +kernel
theorem d11_load_75 : decode (mm_cc M11_load) 75 = .ok (.iastore, 1) := by decide +kernel
theorem d11_load_76 : decode (mm_cc M11_load) 76 = .ok (.aload_n 0, 1) := by decide +kernel
theorem d11_load_77 : decode (mm_cc M11_load) 77 = .ok (.getfield 41, 3) := by decide +kernel
theorem d11_load_80 : decode (mm_cc M11_load) 80 = .ok (.iload_n 3, 1) := by decide +kernel
theorem d11_load_81 : decode (mm_cc M11_load) 81 = .ok (.aload_n 0, 1) := by decide +kernel
theorem d11_load_82 : decode (mm_cc M11_load) 82 = .ok (.getfield 123, 3) := by decide +kernel
theorem d11_load_85 : decode (mm_cc M11_load) 85 = .ok (.iload_n 2, 1) := by decide +kernel
theorem d11_load_86 : decode (mm_cc M11_load) 86 = .ok (.bipush 104, 2) := by decide +kernel
theorem d11_load_88 : decode (mm_cc M11_load) 88 = .ok (.iadd, 1) := by decide +kernel
theorem d11_load_89 : decode (mm_cc M11_load) 89 = .ok (.iload_n 3, 1) := by decide +kernel
theorem d11_load_90 : decode (mm_cc M11_load) 90 = .ok (.iadd, 1) := by decide +kernel
theorem d11_load_91 : decode (mm_cc M11_load) 91 = .ok (.iaload, 1) := by decide +kernel
theorem d11_load_92 : decode (mm_cc M11_load) 92 = .ok (.iconst 1, 1) := by decide +kernel
theorem d11_load_93 : decode (mm_cc M11_load) 93 = .ok (.if_icmp .ne 7, 3) := by decide +kernel
theorem d11_load_96 : decode (mm_cc M11_load) 96 = .ok (.iconst 1, 1) := by decide +kernel
theorem d11_load_97 : decode (mm_cc M11_load) 97 = .ok (.goto 4, 3) := by decide +kernel
theorem d11_load_100 : decode (mm_cc M11_load) 100 = .ok (.iconst 0, 1) := by decide +kernel
theorem d11_load_101 : decode (mm_cc M11_load) 101 = .ok (.bastore, 1) := by decide +kernel
theorem d11_load_102 : decode (mm_cc M11_load) 102 = .ok (.aload_n 0, 1) := by decide +kernel
theorem d11_load_103 : decode (mm_cc M11_load) 103 = .ok (.getfield 51, 3) := by decide +kernel
theorem d11_load_106 : decode (mm_cc M11_load) 106 = .ok (.iload_n 3, 1) := by decide +kernel
theorem d11_load_107 : decode (mm_cc M11_load) 107 = .ok (.aload_n 0, 1) := by decide +kernel
theorem d11_load_108 : decode (mm_cc M11_load) 108 = .ok (.getfield 123, 3) := by decide +kernel
theorem d11_load_111 : decode (mm_cc M11_load) 111 = .ok (.iload_n 2, 1) := by decide +kernel
theorem d11_load_112 : decode (mm_cc M11_load) 112 = .ok (.bipush 112, 2) := by decide +kernel
theorem d11_load_114 : decode (mm_cc M11_load) 114 = .ok (.iadd, 1) := by decide +kernel
theorem d11_load_115 : decode (mm_cc M11_load) 115 = .ok (.iload_n 3, 1) := by decide +kernel
theorem d11_load_116 : decode (mm_cc M11_load) 116 = .ok (.iadd, 1) := by decide +kernel
theorem d11_load_117 : decode (mm_cc M11_load) 117 = .ok (.iaload, 1) := by decide +kernel
theorem d11_load_118 : decode (mm_cc M11_load) 118 = .ok (.iastore, 1) := by decide +kernel
theorem d11_load_119 : decode (mm_cc M11_load) 119 = .ok (.aload_n 0, 1) := by decide +kernel
theorem d11_load_120 : decode (mm_cc M11_load) 120 = .ok (.getfield 54, 3) := by decide +kernel
theorem d11_load_123 : decode (mm_cc M11_load) 123 = .ok (.iload_n 3, 1) := by decide +kernel
theorem d11_load_124 : decode (mm_cc M11_load) 124 = .ok (.aload_n 0, 1) := by decide +kernel
theorem d11_load_125 : decode (mm_cc M11_load) 125 = .ok (.getfield 123, 3) := by decide +kernel
theorem d11_load_128 : decode (mm_cc M11_load) 128 = .ok (.iload_n 2, 1) := by decide +kernel
theorem d11_load_129 : decode (mm_cc M11_load) 129 = .ok (.bipush 120, 2) := by decide +kernel
theorem d11_load_131 : decode (mm_cc M11_load) 131 = .ok (.iadd, 1) := by decide +kernel
theorem d11_load_132 : decode (mm_cc M11_load) 132 = .ok (.iload_n 3, 1) := by decide +kernel
theorem d11_load_133 : decode (mm_cc M11_load) 133 = .ok (.iadd, 1) := by decide +kernel
theorem d11_load_134 : decode (mm_cc M11_load) 134 = .ok (.iaload, 1) := by decide +kernel
theorem d11_load_135 : decode (mm_cc M11_load) 135 = .ok (.iastore, 1) := by decide +kernel
theorem d11_load_136 : decode (mm_cc M11_load) 136 = .ok (.aload_n 0, 1) := by decide +kernel
theorem d11_load_137 : decode (mm_cc M11_load) 137 = .ok (.getfield 57, 3) := by decide +kernel
theorem d11_load_140 : decode (mm_cc M11_load) 140 = .ok (.iload_n 3, 1) := by decide +kernel
theorem d11_load_141 : decode (mm_cc M11_load) 141 = .ok (.aload_n 0, 1) := by decide +kernel
theorem d11_load_142 : decode (mm_cc M11_load) 142 = .ok (.getfield 123, 3) := by decide +kernel
theorem d11_load_145 : decode (mm_cc M11_load) 145 = .ok (.iload_n 2, 1) := by decide +kernel
theorem d11_load_146 : decode (mm_cc M11_load) 146 = .ok (.sipush 128, 3) := by decide +kernel
theorem d11_load_149 : decode (mm_cc M11_load) 149 = .ok (.iadd, 1) := by decide +kernel
theorem d11_load_150 : decode (mm_cc M11_load) 150 = .ok (.iload_n 3, 1) := by decide +kernel
theorem d11_load_151 : decode (mm_cc M11_load) 151 = .ok (.iadd, 1) := by decide +kernel
theorem d11_load_152 : decode (mm_cc M11_load) 152 = .ok (.iaload, 1) := by decide +kernel
theorem d11_load_153 : decode (mm_cc M11_load) 153 = .ok (.iastore, 1) := by decide +kernel
theorem d11_load_154 : decode (mm_cc M11_load) 154 = .ok (.aload_n 0, 1) := by decide +kernel
theorem d11_load_155 : decode (mm_cc M11_load) 155 = .ok (.getfield 60, 3) := by decide +kernel
theorem d11_load_158 : decode (mm_cc M11_load) 158 = .ok (.iload_n 3, 1) := by decide +kernel
theorem d11_load_159 : decode (mm_cc M11_load) 159 = .ok (.aload_n 0, 1) := by decide +kernel
theorem d11_load_160 : decode (mm_cc M11_load) 160 = .ok (.getfield 123, 3) := by decide +kernel
theorem d11_load_163 : decode (mm_cc M11_load) 163 = .ok (.iload_n 2, 1) := by decide +kernel
theorem d11_load_164 : decode (mm_cc M11_load) 164 = .ok (.sipush 136, 3) := by decide +kernel
theorem d11_load_167 : decode (mm_cc M11_load) 167 = .ok (.iadd, 1) := by decide +kernel
theorem d11_load_168 : decode (mm_cc M11_load) 168 = .ok (.iload_n 3, 1) := by decide +kernel
theorem d11_load_169 : decode (mm_cc M11_load) 169 = .ok (.iadd, 1) := by decide +kernel
theorem d11_load_170 : decode (mm_cc M11_load) 170 = .ok (.iaload, 1) := by decide +kernel
theorem d11_load_171 : decode (mm_cc M11_load) 171 = .ok (.iastore, 1) := by decide +kernel
theorem d11_load_172 : decode (mm_cc M11_load) 172 = .ok (.aload_n 0, 1) := by decide +kernel
theorem d11_load_173 : decode (mm_cc M11_load) 173 = .ok (.getfield 63, 3) := by decide +kernel
theorem d11_load_176 : decode (mm_cc M11_load) 176 = .ok (.iload_n 3, 1) := by decide +kernel
theorem d11_load_177 : decode (mm_cc M11_load) 177 = .ok (.aload_n 0, 1) := by decide +kernel
theorem d11_load_178 : decode (mm_cc M11_load) 178 = .ok (.getfield 123, 3) := by decide +kernel
theorem d11_load_181 : decode (mm_cc M11_load) 181 = .ok (.iload_n 2, 1) := by decide +kernel
theorem d11_load_182 : decode (mm_cc M11_load) 182 = .ok (.sipush 144, 3) := by decide +kernel
theorem d11_load_185 : decode (mm_cc M11_load) 185 = .ok (.iadd, 1) := by decide +kernel
theorem d11_load_186 : decode (mm_cc M11_load) 186 = .ok (.iload_n 3, 1) := by decide +kernel
theorem d11_load_187 : decode (mm_cc M11_load) 187 = .ok (.iadd, 1) := by decide +kernel
theorem d11_load_188 : decode (mm_cc M11_load) 188 = .ok (.iaload, 1) := by decide +kernel
theorem d11_load_189 : decode (mm_cc M11_load) 189 = .ok (.iastore, 1) := by decide +kernel
theorem d11_load_190 : decode (mm_cc M11_load) 190 = .ok (.aload_n 0, 1) := by decide +kernel
theorem d11_load_191 : decode (mm_cc M11_load) 191 = .ok (.getfield 66, 3) := by decide +kernel
theorem d11_load_194 : decode (mm_cc M11_load) 194 = .ok (.iload_n 3, 1) := by decide +kernel
theorem d11_load_195 : decode (mm_cc M11_load) 195 = .ok (.aload_n 0, 1) := by decide +kernel
theorem d11_load_196 : decode (mm_cc M11_load) 196 = .ok (.getfield 123, 3) := by decide +kernel
theorem d11_load_199 : decode (mm_cc M11_load) 199 = .ok (.iload_n 2, 1) := by decide +kernel
theorem d11_load_200 : decode (mm_cc M11_load) 200 = .ok (.sipush 152, 3) := by decide +kernel
theorem d11_load_203 : decode (mm_cc M11_load) 203 = .ok (.iadd, 1) := by decide +kernel
theorem d11_load_204 : decode (mm_cc M11_load) 204 = .ok (.iload_n 3, 1) := by decide +kernel
theorem d11_load_205 : decode (mm_cc M11_load) 205 = .ok (.iadd, 1) := by decide +kernel
theorem d11_load_206 : decode (mm_cc M11_load) 206 = .ok (.iaload, 1) := by decide +kernel
theorem d11_load_207 : decode (mm_cc M11_load) 207 = .ok (.iconst 1, 1) := by decide +kernel
theorem d11_load_208 : decode (mm_cc M11_load) 208 = .ok (.if_icmp .ne 7, 3) := by decide +kernel
theorem d11_load_211 : decode (mm_cc M11_load) 211 = .ok (.iconst 1, 1) := by decide +kernel
theorem d11_load_212 : decode (mm_cc M11_load) 212 = .ok (.goto 4, 3) := by decide +kernel
theorem d11_load_215 : decode (mm_cc M11_load) 215 = .ok (.iconst 0, 1) := by decide +kernel
theorem d11_load_216 : decode (mm_cc M11_load) 216 = .ok (.bastore, 1) := by decide +kernel
theorem d11_load_217 : decode (mm_cc M11_load) 217 = .ok (.aload_n 0, 1) := by decide +kernel
theorem d11_load_218 : decode (mm_cc M11_load) 218 = .ok (.getfield 69, 3) := by decide +kernel
theorem d11_load_221 : decode (mm_cc M11_load) 221 = .ok (.iload_n 3, 1) := by decide +kernel
theorem d11_load_222 : decode (mm_cc M11_load) 222 = .ok (.aload_n 0, 1) := by decide +kernel
theorem d11_load_223 : decode (mm_cc M11_load) 223 = .ok (.getfield 123, 3) := by decide +kernel
theorem d11_load_226 : decode (mm_cc M11_load) 226 = .ok (.iload_n 2, 1) := by decide +kernel
theorem d11_load_227 : decode (mm_cc M11_load) 227 = .ok (.sipush 160, 3) := by decide +kernel
theorem d11_load_230 : decode (mm_cc M11_load) 230 = .ok (.iadd, 1) := by decide +kernel
theorem d11_load_231 : decode (mm_cc M11_load) 231 = .ok (.iload_n 3, 1) := by decide +kernel
theorem d11_load_232 : decode (mm_cc M11_load) 232 = .ok (.iadd, 1) := by decide +kernel
theorem d11_load_233 : decode (mm_cc M11_load) 233 = .ok (.iaload, 1) := by decide +kernel
theorem d11_load_234 : decode (mm_cc M11_load) 234 = .ok (.iconst 1, 1) := by decide +kernel
theorem d11_load_235 : decode (mm_cc M11_load) 235 = .ok (.if_icmp .ne 7, 3) := by decide +kernel
theorem d11_load_238 : decode (mm_cc M11_load) 238 = .ok (.iconst 1, 1) := by decide +kernel
theorem d11_load_239 : decode (mm_cc M11_load) 239 = .ok (.goto 4, 3) := by decide +kernel
theorem d11_load_242 : decode (mm_cc M11_load) 242 = .ok (.iconst 0, 1) := by decide +kernel
theorem d11_load_243 : decode (mm_cc M11_load) 243 = .ok (.bastore, 1) := by decide +kernel
theorem d11_load_244 : decode (mm_cc M11_load) 244 = .ok (.iinc 3 1, 3) := by decide +kernel
theorem d11_load_247 : decode (mm_cc M11_load) 247 = .ok (.goto (-194), 3) := by decide +kernel
theorem d11_load_250 : decode (mm_cc M11_load) 250 = .ok (.aload_n 0, 1) := by decide +kernel
theorem d11_load_251 : decode (mm_cc M11_load) 251 = .ok (.aload_n 0, 1) := by decide +kernel
theorem d11_load_252 : decode (mm_cc M11_load) 252 = .ok (.getfield 123, 3) := by decide +kernel
theorem d11_load_255 : decode (mm_cc M11_load) 255 = .ok (.iload_n 2, 1) := by decide +kernel
theorem d11_load_256 : decode (mm_cc M11_load) 256 = .ok (.sipush 168, 3) := by decide +kernel
theorem d11_load_259 : decode (mm_cc M11_load) 259 = .ok (.iadd, 1) := by decide +kernel
theorem d11_load_260 : decode (mm_cc M11_load) 260 = .ok (.iaload, 1) := by decide +kernel
theorem d11_load_261 : decode (mm_cc M11_load) 261 = .ok (.putfield 147, 3) := by decide +kernel
theorem d11_load_264 : decode (mm_cc M11_load) 264 = .ok (.aload_n 0, 1) := by decide +kernel
theorem d11_load_265 : decode (mm_cc M11_load) 265 = .ok (.aload_n 0, 1) := by decide +kernel
theorem d11_load_266 : decode (mm_cc M11_load) 266 = .ok (.getfield 123, 3) := by decide +kernel
theorem d11_load_269 : decode (mm_cc M11_load) 269 = .ok (.iload_n 2, 1) := by decide +kernel
theorem d11_load_270 : decode (mm_cc M11_load) 270 = .ok (.sipush 169, 3) := by decide +kernel
theorem d11_load_273 : decode (mm_cc M11_load) 273 = .ok (.iadd, 1) := by decide +kernel
theorem d11_load_274 : decode (mm_cc M11_load) 274 = .ok (.iaload, 1) := by decide +kernel
theorem d11_load_275 : decode (mm_cc M11_load) 275 = .ok (.putfield 301, 3) := by decide +kernel
theorem d11_load_278 : decode (mm_cc M11_load) 278 = .ok (.return_, 1) := by decide +kernel
theorem d11_longer_0 : decode (mm_cc M11_longer) 0 = .ok (.ldc2_w 184, 3) := by decide +kernel
theorem d11_longer_3 : decode (mm_cc M11_longer) 3 = .ok (.lload_n 0, 1) := by decide +kernel
theorem d11_longer_4 : decode (mm_cc M11_longer) 4 = .ok (.lmul, 1) := by decide +kernel
theorem d11_longer_5 : decode (mm_cc M11_longer) 5 = .ok (.iload_n 2, 1) := by decide +kernel
theorem d11_longer_6 : decode (mm_cc M11_longer) 6 = .ok (.i2l, 1) := by decide +kernel
theorem d11_longer_7 : decode (mm_cc M11_longer) 7 = .ok (.ladd, 1) := by decide +kernel
theorem d11_longer_8 : decode (mm_cc M11_longer) 8 = .ok (.ldc2_w 186, 3) := by decide +kernel
theorem d11_longer_11 : decode (mm_cc M11_longer) 11 = .ok (.lsub, 1) := by decide +kernel
theorem d11_longer_12 : decode (mm_cc M11_longer) 12 = .ok (.lreturn, 1) := by decide +kernel
theorem d11_save_0 : decode (mm_cc M11_save) 0 = .ok (.sipush 180, 3) := by decide +kernel
theorem d11_save_3 : decode (mm_cc M11_save) 3 = .ok (.iload_n 1, 1) := by decide +kernel
theorem d11_save_4 : decode (mm_cc M11_save) 4 = .ok (.imul, 1) := by decide +kernel
theorem d11_save_5 : decode (mm_cc M11_save) 5 = .ok (.istore_n 2, 1) := by decide +kernel
theorem d11_save_6 : decode (mm_cc M11_save) 6 = .ok (.iconst 0, 1) := by decide +kernel
theorem d11_save_7 : decode (mm_cc M11_save) 7 = .ok (.istore_n 3, 1) := by decide +kernel
theorem d11_save_8 : decode (mm_cc M11_save) 8 = .ok (.iload_n 3, 1) := by decide +kernel
theorem d11_save_9 : decode (mm_cc M11_save) 9 = .ok (.bipush 48, 2) := by decide +kernel
theorem d11_save_11 : decode (mm_cc M11_save) 11 = .ok (.if_icmp .ge 40, 3) := by decide +kernel
theorem d11_save_14 : decode (mm_cc M11_save) 14 = .ok (.aload_n 0, 1) := by decide +kernel
theorem d11_save_15 : decode (mm_cc M11_save) 15 = .ok (.getfield 123, 3) := by decide +kernel
theorem d11_save_18 : decode (mm_cc M11_save) 18 = .ok (.iload_n 2, 1) := by decide +kernel
theorem d11_save_19 : decode (mm_cc M11_save) 19 = .ok (.iload_n 3, 1) := by decide +kernel
theorem d11_save_20 : decode (mm_cc M11_save) 20 = .ok (.iadd, 1) := by decide +kernel
theorem d11_save_21 : decode (mm_cc M11_save) 21 = .ok (.aload_n 0, 1) := by decide +kernel
theorem d11_save_22 : decode (mm_cc M11_save) 22 = .ok (.getfield 45, 3) := by decide +kernel
theorem d11_save_25 : decode (mm_cc M11_save) 25 = .ok (.iload_n 3, 1) := by decide +kernel
theorem d11_save_26 : decode (mm_cc M11_save) 26 = .ok (.iaload, 1) := by decide +kernel
theorem d11_save_27 : decode (mm_cc M11_save) 27 = .ok (.iastore, 1) := by decide +kernel
theorem d11_save_28 : decode (mm_cc M11_save) 28 = .ok (.aload_n 0, 1) := by decide +kernel
theorem d11_save_29 : decode (mm_cc M11_save) 29 = .ok (.getfield 123, 3) := by decide +kernel
theorem d11_save_32 : decode (mm_cc M11_save) 32 = .ok (.iload_n 2, 1) := by decide +kernel
theorem d11_save_33 : decode (mm_cc M11_save) 33 = .ok (.bipush 48, 2) := by decide +kernel
theorem d11_save_35 : decode (mm_cc M11_save) 35 = .ok (.iadd, 1) := by decide +kernel
theorem d11_save_36 : decode (mm_cc M11_save) 36 = .ok (.iload_n 3, 1) := by decide +kernel
theorem d11_save_37 : decode (mm_cc M11_save) 37 = .ok (.iadd, 1) := by decide +kernel
theorem d11_save_38 : decode (mm_cc M11_save) 38 = .ok (.aload_n 0, 1) := by decide +kernel
theorem d11_save_39 : decode (mm_cc M11_save) 39 = .ok (.getfield 48, 3) := by decide +kernel
theorem d11_save_42 : decode (mm_cc M11_save) 42 = .ok (.iload_n 3, 1) := by decide +kernel
theorem d11_save_43 : decode (mm_cc M11_save) 43 = .ok (.iaload, 1) := by decide +kernel
theorem d11_save_44 : decode (mm_cc M11_save) 44 = .ok (.iastore, 1) := by decide +kernel
theorem d11_save_45 : decode (mm_cc M11_save) 45 = .ok (.iinc 3 1, 3) := by decide +kernel
theorem d11_save_48 : decode (mm_cc M11_save) 48 = .ok (.goto (-40), 3) := by decide +kernel
theorem d11_save_51 : decode (mm_cc M11_save) 51 = .ok (.iconst 0, 1) := by decide +kernel
theorem d11_save_52 : decode (mm_cc M11_save) 52 = .ok (.istore_n 3, 1) := by decide +kernel
theorem d11_save_53 : decode (mm_cc M11_save) 53 = .ok (.iload_n 3, 1) := by decide +kernel
theorem d11_save_54 : decode (mm_cc M11_save) 54 = .ok (.bipush 8, 2) := by decide +kernel
theorem d11_save_56 : decode (mm_cc M11_save) 56 = .ok (.if_icmp .ge 191, 3) := by decide +kernel
theorem d11_save_59 : decode (mm_cc M11_save) 59 = .ok (.aload_n 0, 1) := by decide +kernel
theorem d11_save_60 : decode (mm_cc M11_save) 60 = .ok (.getfield 123, 3) := by decide +kernel
theorem d11_save_63 : decode (mm_cc M11_save) 63 = .ok (.iload_n 2, 1) := by decide +kernel
theorem d11_save_64 : decode (mm_cc M11_save) 64 = .ok (.bipush 96, 2) := by decide +kernel
theorem d11_save_66 : decode (mm_cc M11_save) 66 = .ok (.iadd, 1) := by decide +kernel
theorem d11_save_67 : decode (mm_cc M11_save) 67 = .ok (.iload_n 3, 1) := by decide +kernel
theorem d11_save_68 : decode (mm_cc M11_save) 68 = .ok (.iadd, 1) := by decide +kernel
theorem d11_save_69 : decode (mm_cc M11_save) 69 = .ok (.aload_n 0, 1) := by decide +kernel
theorem d11_save_70 : decode (mm_cc M11_save) 70 = .ok (.getfield 38, 3) := by decide +kernel
theorem d11_save_73 : decode (mm_cc M11_save) 73 = .ok (.iload_n 3, 1) := by decide +kernel
theorem d11_save_74 : decode (mm_cc M11_save) 74 = .ok (.iaload, 1) := by decide +kernel
theorem d11_save_75 : decode (mm_cc M11_save) 75 = .ok (.iastore, 1) := by decide +kernel
theorem d11_save_76 : decode (mm_cc M11_save) 76 = .ok (.aload_n 0, 1) := by decide +kernel
theorem d11_save_77 : decode (mm_cc M11_save) 77 = .ok (.getfield 123, 3) := by decide +kernel
theorem d11_save_80 : decode (mm_cc M11_save) 80 = .ok (.iload_n 2, 1) := by decide +kernel
theorem d11_save_81 : decode (mm_cc M11_save) 81 = .ok (.bipush 104, 2) := by decide +kernel
theorem d11_save_83 : decode (mm_cc M11_save) 83 = .ok (.iadd, 1) := by decide +kernel
theorem d11_save_84 : decode (mm_cc M11_save) 84 = .ok (.iload_n 3, 1) := by decide +kernel
theorem d11_save_85 : decode (mm_cc M11_save) 85 = .ok (.iadd, 1) := by decide +kernel
theorem d11_save_86 : decode (mm_cc M11_save) 86 = .ok (.aload_n 0, 1) := by decide +kernel
theorem d11_save_87 : decode (mm_cc M11_save) 87 = .ok (.getfield 41, 3) := by decide +kernel
theorem d11_save_90 : decode (mm_cc M11_save) 90 = .ok (.iload_n 3, 1) := by decide +kernel
theorem d11_save_91 : decode (mm_cc M11_save) 91 = .ok (.baload, 1) := by decide +kernel
theorem d11_save_92 : decode (mm_cc M11_save) 92 = .ok (.ifCond .eq 7, 3) := by decide +kernel
theorem d11_save_95 : decode (mm_cc M11_save) 95 = .ok (.iconst 1, 1) := by decide +kernel
theorem d11_save_96 : decode (mm_cc M11_save) 96 = .ok (.goto 4, 3) := by decide +kernel
theorem d11_save_99 : decode (mm_cc M11_save) 99 = .ok (.iconst 0, 1) := by decide +kernel
theorem d11_save_100 : decode (mm_cc M11_save) 100 = .ok (.iastore, 1) := by decide +kernel
theorem d11_save_101 : decode (mm_cc M11_save) 101 = .ok (.aload_n 0, 1) := by decide +kernel
theorem d11_save_102 : decode (mm_cc M11_save) 102 = .ok (.getfield 123, 3) := by decide +kernel
theorem d11_save_105 : decode (mm_cc M11_save) 105 = .ok (.iload_n 2, 1) := by decide +kernel
theorem d11_save_106 : decode (mm_cc M11_save) 106 = .ok (.bipush 112, 2) := by decide +kernel
theorem d11_save_108 : decode (mm_cc M11_save) 108 = .ok (.iadd, 1) := by decide +kernel
theorem d11_save_109 : decode (mm_cc M11_save) 109 = .ok (.iload_n 3, 1) := by decide +kernel
theorem d11_save_110 : decode (mm_cc M11_save) 110 = .ok (.iadd, 1) := by decide +kernel
theorem d11_save_111 : decode (mm_cc M11_save) 111 = .ok (.aload_n 0, 1) := by decide +kernel
theorem d11_save_112 : decode (mm_cc M11_save) 112 = .ok (.getfield 51, 3) := by decide +kernel
theorem d11_save_115 : decode (mm_cc M11_save) 115 = .ok (.iload_n 3, 1) := by decide +kernel
theorem d11_save_116 : decode (mm_cc M11_save) 116 = .ok (.iaload, 1) := by decide +kernel
theorem d11_save_117 : decode (mm_cc M11_save) 117 = .ok (.iastore, 1) := by decide +kernel
theorem d11_save_118 : decode (mm_cc M11_save) 118 = .ok (.aload_n 0, 1) := by decide +kernel
theorem d11_save_119 : decode (mm_cc M11_save) 119 = .ok (.getfield 123, 3) := by decide +kernel
theorem d11_save_122 : decode (mm_cc M11_save) 122 = .ok (.iload_n 2, 1) := by decide +kernel
theorem d11_save_123 : decode (mm_cc M11_save) 123 = .ok (.bipush 120, 2) := by decide +kernel
theorem d11_save_125 : decode (mm_cc M11_save) 125 = .ok (.iadd, 1) := by decide +kernel
theorem d11_save_126 : decode (mm_cc M11_save) 126 = .ok (.iload_n 3, 1) := by decide +kernel
theorem d11_save_127 : decode (mm_cc M11_save) 127 = .ok (.iadd, 1) := by decide +kernel
theorem d11_save_128 : decode (mm_cc M11_save) 128 = .ok (.aload_n 0, 1) := by decide +kernel
theorem d11_save_129 : decode (mm_cc M11_save) 129 = .ok (.getfield 54, 3) := by decide +kernel
theorem d11_save_132 : decode (mm_cc M11_save) 132 = .ok (.iload_n 3, 1) := by decide +kernel
theorem d11_save_133 : decode (mm_cc M11_save) 133 = .ok (.iaload, 1) := by decide +kernel
theorem d11_save_134 : decode (mm_cc M11_save) 134 = .ok (.iastore, 1) := by decide +kernel
theorem d11_save_135 : decode (mm_cc M11_save) 135 = .ok (.aload_n 0, 1) := by decide +kernel
theorem d11_save_136 : decode (mm_cc M11_save) 136 = .ok (.getfield 123, 3) := by decide +kernel
theorem d11_save_139 : decode (mm_cc M11_save) 139 = .ok (.iload_n 2, 1) := by decide +kernel
theorem d11_save_140 : decode (mm_cc M11_save) 140 = .ok (.sipush 128, 3) := by decide +kernel
theorem d11_save_143 : decode (mm_cc M11_save) 143 = .ok (.iadd, 1) := by decide +kernel
theorem d11_save_144 : decode (mm_cc M11_save) 144 = .ok (.iload_n 3, 1) := by decide +kernel
theorem d11_save_145 : decode (mm_cc M11_save) 145 = .ok (.iadd, 1) := by decide +kernel
theorem d11_save_146 : decode (mm_cc M11_save) 146 = .ok (.aload_n 0, 1) := by decide +kernel
theorem d11_save_147 : decode (mm_cc M11_save) 147 = .ok (.getfield 57, 3) := by decide +kernel
theorem d11_save_150 : decode (mm_cc M11_save) 150 = .ok (.iload_n 3, 1) := by decide +kernel
theorem d11_save_151 : decode (mm_cc M11_save) 151 = .ok (.iaload, 1) := by decide +kernel
theorem d11_save_152 : decode (mm_cc M11_save) 152 = .ok (.iastore, 1) := by decide +kernel
theorem d11_save_153 : decode (mm_cc M11_save) 153 = .ok (.aload_n 0, 1) := by decide +kernel
theorem d11_save_154 : decode (mm_cc M11_save) 154 = .ok (.getfield 123, 3) := by decide +kernel
theorem d11_save_157 : decode (mm_cc M11_save) 157 = .ok (.iload_n 2, 1) := by decide +kernel
theorem d11_save_158 : decode (mm_cc M11_save) 158 = .ok (.sipush 136, 3) := by decide +kernel
theorem d11_save_161 : decode (mm_cc M11_save) 161 = .ok (.iadd, 1) := by decide +kernel
theorem d11_save_162 : decode (mm_cc M11_save) 162 = .ok (.iload_n 3, 1) := by decide +kernel
theorem d11_save_163 : decode (mm_cc M11_save) 163 = .ok (.iadd, 1) := by decide +kernel
theorem d11_save_164 : decode (mm_cc M11_save) 164 = .ok (.aload_n 0, 1) := by decide +kernel
theorem d11_save_165 : decode (mm_cc M11_save) 165 = .ok (.getfield 60, 3) := by decide +kernel
theorem d11_save_168 : decode (mm_cc M11_save) 168 = .ok (.iload_n 3, 1) := by decide +kernel
theorem d11_save_169 : decode (mm_cc M11_save) 169 = .ok (.iaload, 1) := by decide +kernel
theorem d11_save_170 : decode (mm_cc M11_save) 170 = .ok (.iastore, 1) := by decide +kernel
theorem d11_save_171 : decode (mm_cc M11_save) 171 = .ok (.aload_n 0, 1) := by decide +kernel
theorem d11_save_172 : decode (mm_cc M11_save) 172 = .ok (.getfield 123, 3) := by decide +kernel
theorem d11_save_175 : decode (mm_cc M11_save) 175 = .ok (.iload_n 2, 1) := by decide +kernel
theorem d11_save_176 : decode (mm_cc M11_save) 176 = .ok (.sipush 144, 3) := by decide +kernel
theorem d11_save_179 : decode (mm_cc M11_save) 179 = .ok (.iadd, 1) := by decide +kernel
theorem d11_save_180 : decode (mm_cc M11_save) 180 = .ok (.iload_n 3, 1) := by decide +kernel
theorem d11_save_181 : decode (mm_cc M11_save) 181 = .ok (.iadd, 1) := by decide +kernel
theorem d11_save_182 : decode (mm_cc M11_save) 182 = .ok (.aload_n 0, 1) := by decide +kernel
theorem d11_save_183 : decode (mm_cc M11_save) 183 = .ok (.getfield 63, 3) := by decide +kernel
theorem d11_save_186 : decode (mm_cc M11_save) 186 = .ok (.iload_n 3, 1) := by decide +kernel
theorem d11_save_187 : decode (mm_cc M11_save) 187 = .ok (.iaload, 1) := by decide +kernel
theorem d11_save_188 : decode (mm_cc M11_save) 188 = .ok (.iastore, 1) := by decide +kernel
theorem d11_save_189 : decode (mm_cc M11_save) 189 = .ok (.aload_n 0, 1) := by decide +kernel
theorem d11_save_190 : decode (mm_cc M11_save) 190 = .ok (.getfield 123, 3) := by decide +kernel
theorem d11_save_193 : decode (mm_cc M11_save) 193 = .ok (.iload_n 2, 1) := by decide +kernel
theorem d11_save_194 : decode (mm_cc M11_save) 194 = .ok (.sipush 152, 3) := by decide +kernel
theorem d11_save_197 : decode (mm_cc M11_save) 197 = .ok (.iadd, 1) := by decide +kernel
theorem d11_save_198 : decode (mm_cc M11_save) 198 = .ok (.iload_n 3, 1) := by decide +kernel
theorem d11_save_199 : decode (mm_cc M11_save) 199 = .ok (.iadd, 1) := by decide +kernel
theorem d11_save_200 : decode (mm_cc M11_save) 200 = .ok (.aload_n 0, 1) := by decide +kernel
theorem d11_save_201 : decode (mm_cc M11_save) 201 = .ok (.getfield 66, 3) := by decide +kernel
theorem d11_save_204 : decode (mm_cc M11_save) 204 = .ok (.iload_n 3, 1) := by decide +kernel
theorem d11_save_205 : decode (mm_cc M11_save) 205 = .ok (.baload, 1) := by decide +kernel
theorem d11_save_206 : decode (mm_cc M11_save) 206 = .ok (.ifCond .eq 7, 3) := by decide +kernel
theorem d11_save_209 : decode (mm_cc M11_save) 209 = .ok (.iconst 1, 1) := by decide +kernel
theorem d11_save_210 : decode (mm_cc M11_save) 210 = .ok (.goto 4, 3) := by decide +kernel
theorem d11_save_213 : decode (mm_cc M11_save) 213 = .ok (.iconst 0, 1) := by decide +kernel
theorem d11_save_214 : decode (mm_cc M11_save) 214 = .ok (.iastore, 1) := by decide +kernel
theorem d11_save_215 : decode (mm_cc M11_save) 215 = .ok (.aload_n 0, 1) := by decide +kernel
theorem d11_save_216 : decode (mm_cc M11_save) 216 = .ok (.getfield 123, 3) := by decide +kernel
theorem d11_save_219 : decode (mm_cc M11_save) 219 = .ok (.iload_n 2, 1) := by decide +kernel
theorem d11_save_220 : decode (mm_cc M11_save) 220 = .ok (.sipush 160, 3) := by decide +kernel
theorem d11_save_223 : decode (mm_cc M11_save) 223 = .ok (.iadd, 1) := by decide +kernel
theorem d11_save_224 : decode (mm_cc M11_save) 224 = .ok (.iload_n 3, 1) := by decide +kernel
theorem d11_save_225 : decode (mm_cc M11_save) 225 = .ok (.iadd, 1) := by decide +kernel
theorem d11_save_226 : decode (mm_cc M11_save) 226 = .ok (.aload_n 0, 1) := by decide +kernel
theorem d11_save_227 : decode (mm_cc M11_save) 227 = .ok (.getfield 69, 3) := by decide +kernel
theorem d11_save_230 : decode (mm_cc M11_save) 230 = .ok (.iload_n 3, 1) := by decide +kernel
theorem d11_save_231 : decode (mm_cc M11_save) 231 = .ok (.baload, 1) := by decide +kernel
theorem d11_save_232 : decode (mm_cc M11_save) 232 = .ok (.ifCond .eq 7, 3) := by decide +kernel
theorem d11_save_235 : decode (mm_cc M11_save) 235 = .ok (.iconst 1, 1) := by decide +kernel
theorem d11_save_236 : decode (mm_cc M11_save) 236 = .ok (.goto 4, 3) := by decide +kernel
theorem d11_save_239 : decode (mm_cc M11_save) 239 = .ok (.iconst 0, 1) := by decide +kernel
theorem d11_save_240 : decode (mm_cc M11_save) 240 = .ok (.iastore, 1) := by decide +kernel
theorem d11_save_241 : decode (mm_cc M11_save) 241 = .ok (.iinc 3 1, 3) := by decide +kernel
theorem d11_save_244 : decode (mm_cc M11_save) 244 = .ok (.goto (-191), 3) := by decide +kernel
theorem d11_save_247 : decode (mm_cc M11_save) 247 = .ok (.aload_n 0, 1) := by decide +kernel
theorem d11_save_248 : decode (mm_cc M11_save) 248 = .ok (.getfield 123, 3) := by decide +kernel
theorem d11_save_251 : decode (mm_cc M11_save) 251 = .ok (.iload_n 2, 1) := by decide +kernel
theorem d11_save_252 : decode (mm_cc M11_save) 252 = .ok (.sipush 168, 3) := by decide +kernel
theorem d11_save_255 : decode (mm_cc M11_save) 255 = .ok (.iadd, 1) := by decide +kernel
theorem d11_save_256 : decode (mm_cc M11_save) 256 = .ok (.aload_n 0, 1) := by decide +kernel
theorem d11_save_257 : decode (mm_cc M11_save) 257 = .ok (.getfield 147, 3) := by decide +kernel
theorem d11_save_260 : decode (mm_cc M11_save) 260 = .ok (.iastore, 1) := by decide +kernel
theorem d11_save_261 : decode (mm_cc M11_save) 261 = .ok (.aload_n 0, 1) := by decide +kernel
theorem d11_save_262 : decode (mm_cc M11_save) 262 = .ok (.getfield 123, 3) := by decide +kernel
theorem d11_save_265 : decode (mm_cc M11_save) 265 = .ok (.iload_n 2, 1) := by decide +kernel
theorem d11_save_266 : decode (mm_cc M11_save) 266 = .ok (.sipush 169, 3) := by decide +kernel
theorem d11_save_269 : decode (mm_cc M11_save) 269 = .ok (.iadd, 1) := by decide +kernel
theorem d11_save_270 : decode (mm_cc M11_save) 270 = .ok (.aload_n 0, 1) := by decide +kernel
theorem d11_save_271 : decode (mm_cc M11_save) 271 = .ok (.getfield 301, 3) := by decide +kernel
theorem d11_save_274 : decode (mm_cc M11_save) 274 = .ok (.iastore, 1) := by decide +kernel
theorem d11_save_275 : decode (mm_cc M11_save) 275 = .ok (.return_, 1) := by decide +kernel
theorem d11_seed_0 : decode (mm_cc M11_seed) 0 = .ok (.iload_n 1, 1) := by decide +kernel
theorem d11_seed_1 : decode (mm_cc M11_seed) 1 = .ok (.ifCond .ge 6, 3) := by decide +kernel
theorem d11_seed_4 : decode (mm_cc M11_seed) 4 = .ok (.ldc 156, 2) := by decide +kernel
theorem d11_seed_6 : decode (mm_cc M11_seed) 6 = .ok (.ireturn, 1) := by decide +kernel
theorem d11_seed_7 : decode (mm_cc M11_seed) 7 = .ok (.aload_n 0, 1) := by decide +kernel
theorem d11_seed_8 : decode (mm_cc M11_seed) 8 = .ok (.getfield 301, 3) := by decide +kernel
theorem d11_seed_11 : decode (mm_cc M11_seed) 11 = .ok (.istore_n 2, 1) := by decide +kernel
theorem d11_seed_12 : decode (mm_cc M11_seed) 12 = .ok (.aload_n 0, 1) := by decide +kernel
theorem d11_seed_13 : decode (mm_cc M11_seed) 13 = .ok (.iload_n 1, 1) := by decide +kernel
theorem d11_seed_14 : decode (mm_cc M11_seed) 14 = .ok (.putfield 301, 3) := by decide +kernel
theorem d11_seed_17 : decode (mm_cc M11_seed) 17 = .ok (.iload_n 2, 1) := by decide +kernel
theorem d11_seed_18 : decode (mm_cc M11_seed) 18 = .ok (.ireturn, 1) := by decide +kernel
theorem d11_tear_0 : decode (mm_cc M11_tear) 0 = .ok (.aload_n 0, 1) := by decide +kernel
theorem d11_tear_1 : decode (mm_cc M11_tear) 1 = .ok (.getfield 247, 3) := by decide +kernel
theorem d11_tear_4 : decode (mm_cc M11_tear) 4 = .ok (.aload_n 0, 1) := by decide +kernel
theorem d11_tear_5 : decode (mm_cc M11_tear) 5 = .ok (.getfield 244, 3) := by decide +kernel
theorem d11_tear_8 : decode (mm_cc M11_tear) 8 = .ok (.iadd, 1) := by decide +kernel
theorem d11_tear_9 : decode (mm_cc M11_tear) 9 = .ok (.istore_n 1, 1) := by decide +kernel
theorem d11_tear_10 : decode (mm_cc M11_tear) 10 = .ok (.aload_n 0, 1) := by decide +kernel
theorem d11_tear_11 : decode (mm_cc M11_tear) 11 = .ok (.iconst 0, 1) := by decide +kernel
theorem d11_tear_12 : decode (mm_cc M11_tear) 12 = .ok (.putfield 247, 3) := by decide +kernel
theorem d11_tear_15 : decode (mm_cc M11_tear) 15 = .ok (.aload_n 0, 1) := by decide +kernel
theorem d11_tear_16 : decode (mm_cc M11_tear) 16 = .ok (.iconst 0, 1) := by decide +kernel
theorem d11_tear_17 : decode (mm_cc M11_tear) 17 = .ok (.putfield 244, 3) := by decide +kernel
theorem d11_tear_20 : decode (mm_cc M11_tear) 20 = .ok (.iload_n 1, 1) := by decide +kernel
theorem d11_tear_21 : decode (mm_cc M11_tear) 21 = .ok (.ireturn, 1) := by decide +kernel
theorem d1_draw_0 : decode (mm_cc M1_draw) 0 = .ok (.aload_n 0, 1) := by decide +kernel
theorem d1_draw_1 : decode (mm_cc M1_draw) 1 = .ok (.aload_n 0, 1) := by decide +kernel
theorem d1_draw_2 : decode (mm_cc M1_draw) 2 = .ok (.getfield 57, 3) := by decide +kernel
theorem d1_draw_5 : decode (mm_cc M1_draw) 5 = .ok (.i2l, 1) := by decide +kernel
theorem d1_draw_6 : decode (mm_cc M1_draw) 6 = .ok (.ldc2_w 86, 3) := by decide +kernel
theorem d1_draw_9 : decode (mm_cc M1_draw) 9 = .ok (.lmul, 1) := by decide +kernel
theorem d1_draw_10 : decode (mm_cc M1_draw) 10 = .ok (.ldc2_w 88, 3) := by decide +kernel
theorem d1_draw_13 : decode (mm_cc M1_draw) 13 = .ok (.ladd, 1) := by decide +kernel
theorem d1_draw_14 : decode (mm_cc M1_draw) 14 = .ok (.ldc2_w 90, 3) := by decide +kernel
theorem d1_draw_17 : decode (mm_cc M1_draw) 17 = .ok (.land, 1) := by decide +kernel
theorem d1_draw_18 : decode (mm_cc M1_draw) 18 = .ok (.l2i, 1) := by decide +kernel
theorem d1_draw_19 : decode (mm_cc M1_draw) 19 = .ok (.putfield 57, 3) := by decide +kernel
theorem d1_draw_22 : decode (mm_cc M1_draw) 22 = .ok (.iload_n 1, 1) := by decide +kernel
theorem d1_draw_23 : decode (mm_cc M1_draw) 23 = .ok (.ifCond .le 15, 3) := by decide +kernel
theorem d1_draw_26 : decode (mm_cc M1_draw) 26 = .ok (.aload_n 0, 1) := by decide +kernel
theorem d1_draw_27 : decode (mm_cc M1_draw) 27 = .ok (.getfield 57, 3) := by decide +kernel
theorem d1_draw_30 : decode (mm_cc M1_draw) 30 = .ok (.ldc 92, 2) := by decide +kernel
theorem d1_draw_32 : decode (mm_cc M1_draw) 32 = .ok (.idiv, 1) := by decide +kernel
theorem d1_draw_33 : decode (mm_cc M1_draw) 33 = .ok (.iload_n 1, 1) := by decide +kernel
theorem d1_draw_34 : decode (mm_cc M1_draw) 34 = .ok (.irem, 1) := by decide +kernel
theorem d1_draw_35 : decode (mm_cc M1_draw) 35 = .ok (.goto 4, 3) := by decide +kernel
theorem d1_draw_38 : decode (mm_cc M1_draw) 38 = .ok (.iconst 0, 1) := by decide +kernel
theorem d1_draw_39 : decode (mm_cc M1_draw) 39 = .ok (.ireturn, 1) := by decide +kernel
theorem d4_blame_0 : decode (mm_cc M4_blame) 0 = .ok (.aload_n 0, 1) := by decide +kernel
theorem d4_blame_1 : decode (mm_cc M4_blame) 1 = .ok (.getfield 33, 3) := by decide +kernel
theorem d4_blame_4 : decode (mm_cc M4_blame) 4 = .ok (.ifCond .ne 13, 3) := by decide +kernel
theorem d4_blame_7 : decode (mm_cc M4_blame) 7 = .ok (.aload_n 0, 1) := by decide +kernel
theorem d4_blame_8 : decode (mm_cc M4_blame) 8 = .ok (.iload_n 1, 1) := by decide +kernel
theorem d4_blame_9 : decode (mm_cc M4_blame) 9 = .ok (.putfield 33, 3) := by decide +kernel
theorem d4_blame_12 : decode (mm_cc M4_blame) 12 = .ok (.aload_n 0, 1) := by decide +kernel
theorem d4_blame_13 : decode (mm_cc M4_blame) 13 = .ok (.iload_n 2, 1) := by decide +kernel
theorem d4_blame_14 : decode (mm_cc M4_blame) 14 = .ok (.putfield 36, 3) := by decide +kernel
theorem d4_blame_17 : decode (mm_cc M4_blame) 17 = .ok (.return_, 1) := by decide +kernel
theorem d4_clear_0 : decode (mm_cc M4_clear) 0 = .ok (.aload_n 0, 1) := by decide +kernel
theorem d4_clear_1 : decode (mm_cc M4_clear) 1 = .ok (.iconst 0, 1) := by decide +kernel
theorem d4_clear_2 : decode (mm_cc M4_clear) 2 = .ok (.putfield 20, 3) := by decide +kernel
theorem d4_clear_5 : decode (mm_cc M4_clear) 5 = .ok (.return_, 1) := by decide +kernel
theorem d4_isSound_0 : decode (mm_cc M4_isSound) 0 = .ok (.aload_n 0, 1) := by decide +kernel
theorem d4_isSound_1 : decode (mm_cc M4_isSound) 1 = .ok (.getfield 33, 3) := by decide +kernel
theorem d4_isSound_4 : decode (mm_cc M4_isSound) 4 = .ok (.ifCond .ne 7, 3) := by decide +kernel
theorem d4_isSound_7 : decode (mm_cc M4_isSound) 7 = .ok (.iconst 1, 1) := by decide +kernel
theorem d4_isSound_8 : decode (mm_cc M4_isSound) 8 = .ok (.goto 4, 3) := by decide +kernel
theorem d4_isSound_11 : decode (mm_cc M4_isSound) 11 = .ok (.iconst 0, 1) := by decide +kernel
theorem d4_isSound_12 : decode (mm_cc M4_isSound) 12 = .ok (.ireturn, 1) := by decide +kernel
theorem d4_tokenOf_0 : decode (mm_cc M4_tokenOf) 0 = .ok (.iload_n 0, 1) := by decide +kernel
theorem d4_tokenOf_1 : decode (mm_cc M4_tokenOf) 1 = .ok (.bipush 97, 2) := by decide +kernel
theorem d4_tokenOf_3 : decode (mm_cc M4_tokenOf) 3 = .ok (.if_icmp .lt 11, 3) := by decide +kernel
theorem d4_tokenOf_6 : decode (mm_cc M4_tokenOf) 6 = .ok (.iload_n 0, 1) := by decide +kernel
theorem d4_tokenOf_7 : decode (mm_cc M4_tokenOf) 7 = .ok (.bipush 122, 2) := by decide +kernel
theorem d4_tokenOf_9 : decode (mm_cc M4_tokenOf) 9 = .ok (.if_icmp .gt 5, 3) := by decide +kernel
theorem d4_tokenOf_12 : decode (mm_cc M4_tokenOf) 12 = .ok (.iconst 1, 1) := by decide +kernel
theorem d4_tokenOf_13 : decode (mm_cc M4_tokenOf) 13 = .ok (.ireturn, 1) := by decide +kernel
theorem d4_tokenOf_14 : decode (mm_cc M4_tokenOf) 14 = .ok (.iload_n 0, 1) := by decide +kernel
theorem d4_tokenOf_15 : decode (mm_cc M4_tokenOf) 15 = .ok (.bipush 48, 2) := by decide +kernel
theorem d4_tokenOf_17 : decode (mm_cc M4_tokenOf) 17 = .ok (.if_icmp .lt 11, 3) := by decide +kernel
theorem d4_tokenOf_20 : decode (mm_cc M4_tokenOf) 20 = .ok (.iload_n 0, 1) := by decide +kernel
theorem d4_tokenOf_21 : decode (mm_cc M4_tokenOf) 21 = .ok (.bipush 57, 2) := by decide +kernel
theorem d4_tokenOf_23 : decode (mm_cc M4_tokenOf) 23 = .ok (.if_icmp .gt 5, 3) := by decide +kernel
theorem d4_tokenOf_26 : decode (mm_cc M4_tokenOf) 26 = .ok (.iconst 2, 1) := by decide +kernel
theorem d4_tokenOf_27 : decode (mm_cc M4_tokenOf) 27 = .ok (.ireturn, 1) := by decide +kernel
theorem d4_tokenOf_28 : decode (mm_cc M4_tokenOf) 28 = .ok (.iload_n 0, 1) := by decide +kernel
theorem d4_tokenOf_29 : decode (mm_cc M4_tokenOf) 29 = .ok (.bipush 59, 2) := by decide +kernel
theorem d4_tokenOf_31 : decode (mm_cc M4_tokenOf) 31 = .ok (.if_icmp .ne 7, 3) := by decide +kernel
theorem d4_tokenOf_34 : decode (mm_cc M4_tokenOf) 34 = .ok (.iconst 3, 1) := by decide +kernel
theorem d4_tokenOf_35 : decode (mm_cc M4_tokenOf) 35 = .ok (.goto 4, 3) := by decide +kernel
theorem d4_tokenOf_38 : decode (mm_cc M4_tokenOf) 38 = .ok (.iconst 4, 1) := by decide +kernel
theorem d4_tokenOf_39 : decode (mm_cc M4_tokenOf) 39 = .ok (.ireturn, 1) := by decide +kernel
theorem d6_at_0 : decode (mm_cc M6_at) 0 = .ok (.iload_n 1, 1) := by decide +kernel
theorem d6_at_1 : decode (mm_cc M6_at) 1 = .ok (.ifCond .lt 21, 3) := by decide +kernel
theorem d6_at_4 : decode (mm_cc M6_at) 4 = .ok (.iload_n 1, 1) := by decide +kernel
theorem d6_at_5 : decode (mm_cc M6_at) 5 = .ok (.aload_n 0, 1) := by decide +kernel
theorem d6_at_6 : decode (mm_cc M6_at) 6 = .ok (.getfield 13, 3) := by decide +kernel
theorem d6_at_9 : decode (mm_cc M6_at) 9 = .ok (.arraylength, 1) := by decide +kernel
theorem d6_at_10 : decode (mm_cc M6_at) 10 = .ok (.if_icmp .ge 12, 3) := by decide +kernel
theorem d6_at_13 : decode (mm_cc M6_at) 13 = .ok (.aload_n 0, 1) := by decide +kernel
theorem d6_at_14 : decode (mm_cc M6_at) 14 = .ok (.getfield 13, 3) := by decide +kernel
theorem d6_at_17 : decode (mm_cc M6_at) 17 = .ok (.iload_n 1, 1) := by decide +kernel
theorem d6_at_18 : decode (mm_cc M6_at) 18 = .ok (.iaload, 1) := by decide +kernel
theorem d6_at_19 : decode (mm_cc M6_at) 19 = .ok (.goto 4, 3) := by decide +kernel
theorem d6_at_22 : decode (mm_cc M6_at) 22 = .ok (.iconst 0, 1) := by decide +kernel
theorem d6_at_23 : decode (mm_cc M6_at) 23 = .ok (.ireturn, 1) := by decide +kernel
theorem d6_copyFrom_0 : decode (mm_cc M6_copyFrom) 0 = .ok (.iconst 0, 1) := by decide +kernel
theorem d6_copyFrom_1 : decode (mm_cc M6_copyFrom) 1 = .ok (.istore_n 2, 1) := by decide +kernel
theorem d6_copyFrom_2 : decode (mm_cc M6_copyFrom) 2 = .ok (.iload_n 2, 1) := by decide +kernel
theorem d6_copyFrom_3 : decode (mm_cc M6_copyFrom) 3 = .ok (.aload_n 0, 1) := by decide +kernel
theorem d6_copyFrom_4 : decode (mm_cc M6_copyFrom) 4 = .ok (.getfield 13, 3) := by decide +kernel
theorem d6_copyFrom_7 : decode (mm_cc M6_copyFrom) 7 = .ok (.arraylength, 1) := by decide +kernel
theorem d6_copyFrom_8 : decode (mm_cc M6_copyFrom) 8 = .ok (.if_icmp .ge 30, 3) := by decide +kernel
theorem d6_copyFrom_11 : decode (mm_cc M6_copyFrom) 11 = .ok (.iload_n 2, 1) := by decide +kernel
theorem d6_copyFrom_12 : decode (mm_cc M6_copyFrom) 12 = .ok (.aload_n 1, 1) := by decide +kernel
theorem d6_copyFrom_13 : decode (mm_cc M6_copyFrom) 13 = .ok (.getfield 13, 3) := by decide +kernel
theorem d6_copyFrom_16 : decode (mm_cc M6_copyFrom) 16 = .ok (.arraylength, 1) := by decide +kernel
theorem d6_copyFrom_17 : decode (mm_cc M6_copyFrom) 17 = .ok (.if_icmp .ge 21, 3) := by decide +kernel
theorem d6_copyFrom_20 : decode (mm_cc M6_copyFrom) 20 = .ok (.aload_n 0, 1) := by decide +kernel
theorem d6_copyFrom_21 : decode (mm_cc M6_copyFrom) 21 = .ok (.getfield 13, 3) := by decide +kernel
theorem d6_copyFrom_24 : decode (mm_cc M6_copyFrom) 24 = .ok (.iload_n 2, 1) := by decide +kernel
theorem d6_copyFrom_25 : decode (mm_cc M6_copyFrom) 25 = .ok (.aload_n 1, 1) := by decide +kernel
theorem d6_copyFrom_26 : decode (mm_cc M6_copyFrom) 26 = .ok (.getfield 13, 3) := by decide +kernel
theorem d6_copyFrom_29 : decode (mm_cc M6_copyFrom) 29 = .ok (.iload_n 2, 1) := by decide +kernel
theorem d6_copyFrom_30 : decode (mm_cc M6_copyFrom) 30 = .ok (.iaload, 1) := by decide +kernel
theorem d6_copyFrom_31 : decode (mm_cc M6_copyFrom) 31 = .ok (.iastore, 1) := by decide +kernel
theorem d6_copyFrom_32 : decode (mm_cc M6_copyFrom) 32 = .ok (.iinc 2 1, 3) := by decide +kernel
theorem d6_copyFrom_35 : decode (mm_cc M6_copyFrom) 35 = .ok (.goto (-33), 3) := by decide +kernel
theorem d6_copyFrom_38 : decode (mm_cc M6_copyFrom) 38 = .ok (.return_, 1) := by decide +kernel
theorem d6_fill_0 : decode (mm_cc M6_fill) 0 = .ok (.iconst 0, 1) := by decide +kernel
theorem d6_fill_1 : decode (mm_cc M6_fill) 1 = .ok (.istore_n 2, 1) := by decide +kernel
theorem d6_fill_2 : decode (mm_cc M6_fill) 2 = .ok (.iload_n 2, 1) := by decide +kernel
theorem d6_fill_3 : decode (mm_cc M6_fill) 3 = .ok (.aload_n 0, 1) := by decide +kernel
theorem d6_fill_4 : decode (mm_cc M6_fill) 4 = .ok (.getfield 13, 3) := by decide +kernel
theorem d6_fill_7 : decode (mm_cc M6_fill) 7 = .ok (.arraylength, 1) := by decide +kernel
theorem d6_fill_8 : decode (mm_cc M6_fill) 8 = .ok (.if_icmp .ge 16, 3) := by decide +kernel
theorem d6_fill_11 : decode (mm_cc M6_fill) 11 = .ok (.aload_n 0, 1) := by decide +kernel
theorem d6_fill_12 : decode (mm_cc M6_fill) 12 = .ok (.getfield 13, 3) := by decide +kernel
theorem d6_fill_15 : decode (mm_cc M6_fill) 15 = .ok (.iload_n 2, 1) := by decide +kernel
theorem d6_fill_16 : decode (mm_cc M6_fill) 16 = .ok (.iload_n 1, 1) := by decide +kernel
theorem d6_fill_17 : decode (mm_cc M6_fill) 17 = .ok (.iastore, 1) := by decide +kernel
theorem d6_fill_18 : decode (mm_cc M6_fill) 18 = .ok (.iinc 2 1, 3) := by decide +kernel
theorem d6_fill_21 : decode (mm_cc M6_fill) 21 = .ok (.goto (-19), 3) := by decide +kernel
theorem d6_fill_24 : decode (mm_cc M6_fill) 24 = .ok (.return_, 1) := by decide +kernel
theorem d6_put_0 : decode (mm_cc M6_put) 0 = .ok (.iload_n 1, 1) := by decide +kernel
theorem d6_put_1 : decode (mm_cc M6_put) 1 = .ok (.ifCond .lt 19, 3) := by decide +kernel
theorem d6_put_4 : decode (mm_cc M6_put) 4 = .ok (.iload_n 1, 1) := by decide +kernel
theorem d6_put_5 : decode (mm_cc M6_put) 5 = .ok (.aload_n 0, 1) := by decide +kernel
theorem d6_put_6 : decode (mm_cc M6_put) 6 = .ok (.getfield 13, 3) := by decide +kernel
theorem d6_put_9 : decode (mm_cc M6_put) 9 = .ok (.arraylength, 1) := by decide +kernel
theorem d6_put_10 : decode (mm_cc M6_put) 10 = .ok (.if_icmp .ge 10, 3) := by decide +kernel
theorem d6_put_13 : decode (mm_cc M6_put) 13 = .ok (.aload_n 0, 1) := by decide +kernel
theorem d6_put_14 : decode (mm_cc M6_put) 14 = .ok (.getfield 13, 3) := by decide +kernel
theorem d6_put_17 : decode (mm_cc M6_put) 17 = .ok (.iload_n 1, 1) := by decide +kernel
theorem d6_put_18 : decode (mm_cc M6_put) 18 = .ok (.iload_n 2, 1) := by decide +kernel
theorem d6_put_19 : decode (mm_cc M6_put) 19 = .ok (.iastore, 1) := by decide +kernel
theorem d6_put_20 : decode (mm_cc M6_put) 20 = .ok (.return_, 1) := by decide +kernel
theorem d7_clear_0 : decode (mm_cc M7_clear) 0 = .ok (.aload_n 0, 1) := by decide +kernel
theorem d7_clear_1 : decode (mm_cc M7_clear) 1 = .ok (.iconst 2, 1) := by decide +kernel
theorem d7_clear_2 : decode (mm_cc M7_clear) 2 = .ok (.putfield 14, 3) := by decide +kernel
theorem d7_clear_5 : decode (mm_cc M7_clear) 5 = .ok (.aload_n 0, 1) := by decide +kernel
theorem d7_clear_6 : decode (mm_cc M7_clear) 6 = .ok (.iconst 2, 1) := by decide +kernel
theorem d7_clear_7 : decode (mm_cc M7_clear) 7 = .ok (.putfield 18, 3) := by decide +kernel
theorem d7_clear_10 : decode (mm_cc M7_clear) 10 = .ok (.aload_n 0, 1) := by decide +kernel
theorem d7_clear_11 : decode (mm_cc M7_clear) 11 = .ok (.bipush 25, 2) := by decide +kernel
theorem d7_clear_13 : decode (mm_cc M7_clear) 13 = .ok (.putfield 21, 3) := by decide +kernel
theorem d7_clear_16 : decode (mm_cc M7_clear) 16 = .ok (.aload_n 0, 1) := by decide +kernel
theorem d7_clear_17 : decode (mm_cc M7_clear) 17 = .ok (.iconst 5, 1) := by decide +kernel
theorem d7_clear_18 : decode (mm_cc M7_clear) 18 = .ok (.putfield 24, 3) := by decide +kernel
theorem d7_clear_21 : decode (mm_cc M7_clear) 21 = .ok (.aload_n 0, 1) := by decide +kernel
theorem d7_clear_22 : decode (mm_cc M7_clear) 22 = .ok (.bipush 70, 2) := by decide +kernel
theorem d7_clear_24 : decode (mm_cc M7_clear) 24 = .ok (.putfield 27, 3) := by decide +kernel
theorem d7_clear_27 : decode (mm_cc M7_clear) 27 = .ok (.aload_n 0, 1) := by decide +kernel
theorem d7_clear_28 : decode (mm_cc M7_clear) 28 = .ok (.iconst 0, 1) := by decide +kernel
theorem d7_clear_29 : decode (mm_cc M7_clear) 29 = .ok (.putfield 30, 3) := by decide +kernel
theorem d7_clear_32 : decode (mm_cc M7_clear) 32 = .ok (.aload_n 0, 1) := by decide +kernel
theorem d7_clear_33 : decode (mm_cc M7_clear) 33 = .ok (.iconst 0, 1) := by decide +kernel
theorem d7_clear_34 : decode (mm_cc M7_clear) 34 = .ok (.putfield 34, 3) := by decide +kernel
theorem d7_clear_37 : decode (mm_cc M7_clear) 37 = .ok (.return_, 1) := by decide +kernel
theorem d7_copyFrom_0 : decode (mm_cc M7_copyFrom) 0 = .ok (.aload_n 0, 1) := by decide +kernel
theorem d7_copyFrom_1 : decode (mm_cc M7_copyFrom) 1 = .ok (.aload_n 1, 1) := by decide +kernel
theorem d7_copyFrom_2 : decode (mm_cc M7_copyFrom) 2 = .ok (.getfield 14, 3) := by decide +kernel
theorem d7_copyFrom_5 : decode (mm_cc M7_copyFrom) 5 = .ok (.putfield 14, 3) := by decide +kernel
theorem d7_copyFrom_8 : decode (mm_cc M7_copyFrom) 8 = .ok (.aload_n 0, 1) := by decide +kernel
theorem d7_copyFrom_9 : decode (mm_cc M7_copyFrom) 9 = .ok (.aload_n 1, 1) := by decide +kernel
theorem d7_copyFrom_10 : decode (mm_cc M7_copyFrom) 10 = .ok (.getfield 18, 3) := by decide +kernel
theorem d7_copyFrom_13 : decode (mm_cc M7_copyFrom) 13 = .ok (.putfield 18, 3) := by decide +kernel
theorem d7_copyFrom_16 : decode (mm_cc M7_copyFrom) 16 = .ok (.aload_n 0, 1) := by decide +kernel
theorem d7_copyFrom_17 : decode (mm_cc M7_copyFrom) 17 = .ok (.aload_n 1, 1) := by decide +kernel
theorem d7_copyFrom_18 : decode (mm_cc M7_copyFrom) 18 = .ok (.getfield 21, 3) := by decide +kernel
theorem d7_copyFrom_21 : decode (mm_cc M7_copyFrom) 21 = .ok (.putfield 21, 3) := by decide +kernel
theorem d7_copyFrom_24 : decode (mm_cc M7_copyFrom) 24 = .ok (.aload_n 0, 1) := by decide +kernel
theorem d7_copyFrom_25 : decode (mm_cc M7_copyFrom) 25 = .ok (.aload_n 1, 1) := by decide +kernel
theorem d7_copyFrom_26 : decode (mm_cc M7_copyFrom) 26 = .ok (.getfield 24, 3) := by decide +kernel
theorem d7_copyFrom_29 : decode (mm_cc M7_copyFrom) 29 = .ok (.putfield 24, 3) := by decide +kernel
theorem d7_copyFrom_32 : decode (mm_cc M7_copyFrom) 32 = .ok (.aload_n 0, 1) := by decide +kernel
theorem d7_copyFrom_33 : decode (mm_cc M7_copyFrom) 33 = .ok (.aload_n 1, 1) := by decide +kernel
theorem d7_copyFrom_34 : decode (mm_cc M7_copyFrom) 34 = .ok (.getfield 27, 3) := by decide +kernel
theorem d7_copyFrom_37 : decode (mm_cc M7_copyFrom) 37 = .ok (.putfield 27, 3) := by decide +kernel
theorem d7_copyFrom_40 : decode (mm_cc M7_copyFrom) 40 = .ok (.aload_n 0, 1) := by decide +kernel
theorem d7_copyFrom_41 : decode (mm_cc M7_copyFrom) 41 = .ok (.aload_n 1, 1) := by decide +kernel
theorem d7_copyFrom_42 : decode (mm_cc M7_copyFrom) 42 = .ok (.getfield 30, 3) := by decide +kernel
theorem d7_copyFrom_45 : decode (mm_cc M7_copyFrom) 45 = .ok (.putfield 30, 3) := by decide +kernel
theorem d7_copyFrom_48 : decode (mm_cc M7_copyFrom) 48 = .ok (.return_, 1) := by decide +kernel
theorem d8_clear_0 : decode (mm_cc M8_clear) 0 = .ok (.aload_n 0, 1) := by decide +kernel
theorem d8_clear_1 : decode (mm_cc M8_clear) 1 = .ok (.iconst 0, 1) := by decide +kernel
theorem d8_clear_2 : decode (mm_cc M8_clear) 2 = .ok (.putfield 35, 3) := by decide +kernel
theorem d8_clear_5 : decode (mm_cc M8_clear) 5 = .ok (.aload_n 0, 1) := by decide +kernel
theorem d8_clear_6 : decode (mm_cc M8_clear) 6 = .ok (.iconst 0, 1) := by decide +kernel
theorem d8_clear_7 : decode (mm_cc M8_clear) 7 = .ok (.putfield 39, 3) := by decide +kernel
theorem d8_clear_10 : decode (mm_cc M8_clear) 10 = .ok (.return_, 1) := by decide +kernel
theorem dJ6_bitCount_0 : decode (mm_cc MJ6_bitCount) 0 = .ok (.iload_n 0, 1) := by decide +kernel
theorem dJ6_bitCount_1 : decode (mm_cc MJ6_bitCount) 1 = .ok (.iload_n 0, 1) := by decide +kernel
theorem dJ6_bitCount_2 : decode (mm_cc MJ6_bitCount) 2 = .ok (.iconst 1, 1) := by decide +kernel
theorem dJ6_bitCount_3 : decode (mm_cc MJ6_bitCount) 3 = .ok (.iushr, 1) := by decide +kernel
theorem dJ6_bitCount_4 : decode (mm_cc MJ6_bitCount) 4 = .ok (.ldc_w 265, 3) := by decide +kernel
theorem dJ6_bitCount_7 : decode (mm_cc MJ6_bitCount) 7 = .ok (.iand, 1) := by decide +kernel
theorem dJ6_bitCount_8 : decode (mm_cc MJ6_bitCount) 8 = .ok (.isub, 1) := by decide +kernel
theorem dJ6_bitCount_9 : decode (mm_cc MJ6_bitCount) 9 = .ok (.istore_n 0, 1) := by decide +kernel
theorem dJ6_bitCount_10 : decode (mm_cc MJ6_bitCount) 10 = .ok (.iload_n 0, 1) := by decide +kernel
theorem dJ6_bitCount_11 : decode (mm_cc MJ6_bitCount) 11 = .ok (.ldc_w 266, 3) := by decide +kernel
theorem dJ6_bitCount_14 : decode (mm_cc MJ6_bitCount) 14 = .ok (.iand, 1) := by decide +kernel
theorem dJ6_bitCount_15 : decode (mm_cc MJ6_bitCount) 15 = .ok (.iload_n 0, 1) := by decide +kernel
theorem dJ6_bitCount_16 : decode (mm_cc MJ6_bitCount) 16 = .ok (.iconst 2, 1) := by decide +kernel
theorem dJ6_bitCount_17 : decode (mm_cc MJ6_bitCount) 17 = .ok (.iushr, 1) := by decide +kernel
theorem dJ6_bitCount_18 : decode (mm_cc MJ6_bitCount) 18 = .ok (.ldc_w 266, 3) := by decide +kernel
theorem dJ6_bitCount_21 : decode (mm_cc MJ6_bitCount) 21 = .ok (.iand, 1) := by decide +kernel
theorem dJ6_bitCount_22 : decode (mm_cc MJ6_bitCount) 22 = .ok (.iadd, 1) := by decide +kernel
theorem dJ6_bitCount_23 : decode (mm_cc MJ6_bitCount) 23 = .ok (.istore_n 0, 1) := by decide +kernel
theorem dJ6_bitCount_24 : decode (mm_cc MJ6_bitCount) 24 = .ok (.iload_n 0, 1) := by decide +kernel
theorem dJ6_bitCount_25 : decode (mm_cc MJ6_bitCount) 25 = .ok (.iload_n 0, 1) := by decide +kernel
theorem dJ6_bitCount_26 : decode (mm_cc MJ6_bitCount) 26 = .ok (.iconst 4, 1) := by decide +kernel
theorem dJ6_bitCount_27 : decode (mm_cc MJ6_bitCount) 27 = .ok (.iushr, 1) := by decide +kernel
theorem dJ6_bitCount_28 : decode (mm_cc MJ6_bitCount) 28 = .ok (.iadd, 1) := by decide +kernel
theorem dJ6_bitCount_29 : decode (mm_cc MJ6_bitCount) 29 = .ok (.ldc_w 267, 3) := by decide +kernel
theorem dJ6_bitCount_32 : decode (mm_cc MJ6_bitCount) 32 = .ok (.iand, 1) := by decide +kernel
theorem dJ6_bitCount_33 : decode (mm_cc MJ6_bitCount) 33 = .ok (.istore_n 0, 1) := by decide +kernel
theorem dJ6_bitCount_34 : decode (mm_cc MJ6_bitCount) 34 = .ok (.iload_n 0, 1) := by decide +kernel
theorem dJ6_bitCount_35 : decode (mm_cc MJ6_bitCount) 35 = .ok (.iload_n 0, 1) := by decide +kernel
theorem dJ6_bitCount_36 : decode (mm_cc MJ6_bitCount) 36 = .ok (.bipush 8, 2) := by decide +kernel
theorem dJ6_bitCount_38 : decode (mm_cc MJ6_bitCount) 38 = .ok (.iushr, 1) := by decide +kernel
theorem dJ6_bitCount_39 : decode (mm_cc MJ6_bitCount) 39 = .ok (.iadd, 1) := by decide +kernel
theorem dJ6_bitCount_40 : decode (mm_cc MJ6_bitCount) 40 = .ok (.istore_n 0, 1) := by decide +kernel
theorem dJ6_bitCount_41 : decode (mm_cc MJ6_bitCount) 41 = .ok (.iload_n 0, 1) := by decide +kernel
theorem dJ6_bitCount_42 : decode (mm_cc MJ6_bitCount) 42 = .ok (.iload_n 0, 1) := by decide +kernel
theorem dJ6_bitCount_43 : decode (mm_cc MJ6_bitCount) 43 = .ok (.bipush 16, 2) := by decide +kernel
theorem dJ6_bitCount_45 : decode (mm_cc MJ6_bitCount) 45 = .ok (.iushr, 1) := by decide +kernel
theorem dJ6_bitCount_46 : decode (mm_cc MJ6_bitCount) 46 = .ok (.iadd, 1) := by decide +kernel
theorem dJ6_bitCount_47 : decode (mm_cc MJ6_bitCount) 47 = .ok (.istore_n 0, 1) := by decide +kernel
theorem dJ6_bitCount_48 : decode (mm_cc MJ6_bitCount) 48 = .ok (.iload_n 0, 1) := by decide +kernel
theorem dJ6_bitCount_49 : decode (mm_cc MJ6_bitCount) 49 = .ok (.bipush 63, 2) := by decide +kernel
theorem dJ6_bitCount_51 : decode (mm_cc MJ6_bitCount) 51 = .ok (.iand, 1) := by decide +kernel
theorem dJ6_bitCount_52 : decode (mm_cc MJ6_bitCount) 52 = .ok (.ireturn, 1) := by decide +kernel
theorem d0_clear_0 : decode (mm_cc M0_clear) 0 = .ok (.aload_n 0, 1) := by decide +kernel
theorem d0_clear_1 : decode (mm_cc M0_clear) 1 = .ok (.getfield 29, 3) := by decide +kernel
theorem d0_clear_4 : decode (mm_cc M0_clear) 4 = .ok (.iconst 0, 1) := by decide +kernel
theorem d0_clear_5 : decode (mm_cc M0_clear) 5 = .ok (.invokevirtual 47, 3) := by decide +kernel
theorem d0_clear_8 : decode (mm_cc M0_clear) 8 = .ok (.aload_n 0, 1) := by decide +kernel
theorem d0_clear_9 : decode (mm_cc M0_clear) 9 = .ok (.iconst 0, 1) := by decide +kernel
theorem d0_clear_10 : decode (mm_cc M0_clear) 10 = .ok (.putfield 32, 3) := by decide +kernel
theorem d0_clear_13 : decode (mm_cc M0_clear) 13 = .ok (.aload_n 0, 1) := by decide +kernel
theorem d0_clear_14 : decode (mm_cc M0_clear) 14 = .ok (.iconst 0, 1) := by decide +kernel
theorem d0_clear_15 : decode (mm_cc M0_clear) 15 = .ok (.putfield 36, 3) := by decide +kernel
theorem d0_clear_18 : decode (mm_cc M0_clear) 18 = .ok (.return_, 1) := by decide +kernel
theorem d0_copyFrom_0 : decode (mm_cc M0_copyFrom) 0 = .ok (.aload_n 0, 1) := by decide +kernel
theorem d0_copyFrom_1 : decode (mm_cc M0_copyFrom) 1 = .ok (.getfield 14, 3) := by decide +kernel
theorem d0_copyFrom_4 : decode (mm_cc M0_copyFrom) 4 = .ok (.aload_n 1, 1) := by decide +kernel
theorem d0_copyFrom_5 : decode (mm_cc M0_copyFrom) 5 = .ok (.getfield 14, 3) := by decide +kernel
theorem d0_copyFrom_8 : decode (mm_cc M0_copyFrom) 8 = .ok (.invokevirtual 50, 3) := by decide +kernel
theorem d0_copyFrom_11 : decode (mm_cc M0_copyFrom) 11 = .ok (.aload_n 0, 1) := by decide +kernel
theorem d0_copyFrom_12 : decode (mm_cc M0_copyFrom) 12 = .ok (.getfield 20, 3) := by decide +kernel
theorem d0_copyFrom_15 : decode (mm_cc M0_copyFrom) 15 = .ok (.aload_n 1, 1) := by decide +kernel
theorem d0_copyFrom_16 : decode (mm_cc M0_copyFrom) 16 = .ok (.getfield 20, 3) := by decide +kernel
theorem d0_copyFrom_19 : decode (mm_cc M0_copyFrom) 19 = .ok (.invokevirtual 50, 3) := by decide +kernel
theorem d0_copyFrom_22 : decode (mm_cc M0_copyFrom) 22 = .ok (.aload_n 0, 1) := by decide +kernel
theorem d0_copyFrom_23 : decode (mm_cc M0_copyFrom) 23 = .ok (.getfield 23, 3) := by decide +kernel
theorem d0_copyFrom_26 : decode (mm_cc M0_copyFrom) 26 = .ok (.aload_n 1, 1) := by decide +kernel
theorem d0_copyFrom_27 : decode (mm_cc M0_copyFrom) 27 = .ok (.getfield 23, 3) := by decide +kernel
theorem d0_copyFrom_30 : decode (mm_cc M0_copyFrom) 30 = .ok (.invokevirtual 50, 3) := by decide +kernel
theorem d0_copyFrom_33 : decode (mm_cc M0_copyFrom) 33 = .ok (.aload_n 0, 1) := by decide +kernel
theorem d0_copyFrom_34 : decode (mm_cc M0_copyFrom) 34 = .ok (.getfield 26, 3) := by decide +kernel
theorem d0_copyFrom_37 : decode (mm_cc M0_copyFrom) 37 = .ok (.aload_n 1, 1) := by decide +kernel
theorem d0_copyFrom_38 : decode (mm_cc M0_copyFrom) 38 = .ok (.getfield 26, 3) := by decide +kernel
theorem d0_copyFrom_41 : decode (mm_cc M0_copyFrom) 41 = .ok (.invokevirtual 50, 3) := by decide +kernel
theorem d0_copyFrom_44 : decode (mm_cc M0_copyFrom) 44 = .ok (.aload_n 0, 1) := by decide +kernel
theorem d0_copyFrom_45 : decode (mm_cc M0_copyFrom) 45 = .ok (.getfield 29, 3) := by decide +kernel
theorem d0_copyFrom_48 : decode (mm_cc M0_copyFrom) 48 = .ok (.aload_n 1, 1) := by decide +kernel
theorem d0_copyFrom_49 : decode (mm_cc M0_copyFrom) 49 = .ok (.getfield 29, 3) := by decide +kernel
theorem d0_copyFrom_52 : decode (mm_cc M0_copyFrom) 52 = .ok (.invokevirtual 50, 3) := by decide +kernel
theorem d0_copyFrom_55 : decode (mm_cc M0_copyFrom) 55 = .ok (.aload_n 0, 1) := by decide +kernel
theorem d0_copyFrom_56 : decode (mm_cc M0_copyFrom) 56 = .ok (.aload_n 1, 1) := by decide +kernel
theorem d0_copyFrom_57 : decode (mm_cc M0_copyFrom) 57 = .ok (.getfield 32, 3) := by decide +kernel
theorem d0_copyFrom_60 : decode (mm_cc M0_copyFrom) 60 = .ok (.putfield 32, 3) := by decide +kernel
theorem d0_copyFrom_63 : decode (mm_cc M0_copyFrom) 63 = .ok (.aload_n 0, 1) := by decide +kernel
theorem d0_copyFrom_64 : decode (mm_cc M0_copyFrom) 64 = .ok (.aload_n 1, 1) := by decide +kernel
theorem d0_copyFrom_65 : decode (mm_cc M0_copyFrom) 65 = .ok (.getfield 36, 3) := by decide +kernel
theorem d0_copyFrom_68 : decode (mm_cc M0_copyFrom) 68 = .ok (.putfield 36, 3) := by decide +kernel
theorem d0_copyFrom_71 : decode (mm_cc M0_copyFrom) 71 = .ok (.return_, 1) := by decide +kernel
theorem d0_isForbidden_0 : decode (mm_cc M0_isForbidden) 0 = .ok (.aload_n 0, 1) := by decide +kernel
theorem d0_isForbidden_1 : decode (mm_cc M0_isForbidden) 1 = .ok (.getfield 14, 3) := by decide +kernel
theorem d0_isForbidden_4 : decode (mm_cc M0_isForbidden) 4 = .ok (.iload_n 1, 1) := by decide +kernel
theorem d0_isForbidden_5 : decode (mm_cc M0_isForbidden) 5 = .ok (.invokevirtual 43, 3) := by decide +kernel
theorem d0_isForbidden_8 : decode (mm_cc M0_isForbidden) 8 = .ok (.iconst 3, 1) := by decide +kernel
theorem d0_isForbidden_9 : decode (mm_cc M0_isForbidden) 9 = .ok (.if_icmp .ne 7, 3) := by decide +kernel
theorem d0_isForbidden_12 : decode (mm_cc M0_isForbidden) 12 = .ok (.iconst 1, 1) := by decide +kernel
theorem d0_isForbidden_13 : decode (mm_cc M0_isForbidden) 13 = .ok (.goto 4, 3) := by decide +kernel
theorem d0_isForbidden_16 : decode (mm_cc M0_isForbidden) 16 = .ok (.iconst 0, 1) := by decide +kernel
theorem d0_isForbidden_17 : decode (mm_cc M0_isForbidden) 17 = .ok (.ireturn, 1) := by decide +kernel
theorem d0_likeOf_0 : decode (mm_cc M0_likeOf) 0 = .ok (.aload_n 0, 1) := by decide +kernel
theorem d0_likeOf_1 : decode (mm_cc M0_likeOf) 1 = .ok (.getfield 29, 3) := by decide +kernel
theorem d0_likeOf_4 : decode (mm_cc M0_likeOf) 4 = .ok (.iload_n 1, 1) := by decide +kernel
theorem d0_likeOf_5 : decode (mm_cc M0_likeOf) 5 = .ok (.iload_n 2, 1) := by decide +kernel
theorem d0_likeOf_6 : decode (mm_cc M0_likeOf) 6 = .ok (.invokestatic 39, 3) := by decide +kernel
theorem d0_likeOf_9 : decode (mm_cc M0_likeOf) 9 = .ok (.invokevirtual 43, 3) := by decide +kernel
theorem d0_likeOf_12 : decode (mm_cc M0_likeOf) 12 = .ok (.ireturn, 1) := by decide +kernel
theorem d10_isKnownPair_0 : decode (mm_cc M10_isKnownPair) 0 = .ok (.aload_n 0, 1) := by decide +kernel
theorem d10_isKnownPair_1 : decode (mm_cc M10_isKnownPair) 1 = .ok (.getfield 19, 3) := by decide +kernel
theorem d10_isKnownPair_4 : decode (mm_cc M10_isKnownPair) 4 = .ok (.iload_n 1, 1) := by decide +kernel
theorem d10_isKnownPair_5 : decode (mm_cc M10_isKnownPair) 5 = .ok (.invokevirtual 241, 3) := by decide +kernel
theorem d10_isKnownPair_8 : decode (mm_cc M10_isKnownPair) 8 = .ok (.ifCond .eq 18, 3) := by decide +kernel
theorem d10_isKnownPair_11 : decode (mm_cc M10_isKnownPair) 11 = .ok (.aload_n 0, 1) := by decide +kernel
theorem d10_isKnownPair_12 : decode (mm_cc M10_isKnownPair) 12 = .ok (.getfield 19, 3) := by decide +kernel
theorem d10_isKnownPair_15 : decode (mm_cc M10_isKnownPair) 15 = .ok (.iload_n 2, 1) := by decide +kernel
theorem d10_isKnownPair_16 : decode (mm_cc M10_isKnownPair) 16 = .ok (.invokevirtual 216, 3) := by decide +kernel
theorem d10_isKnownPair_19 : decode (mm_cc M10_isKnownPair) 19 = .ok (.ifCond .eq 7, 3) := by decide +kernel
theorem d10_isKnownPair_22 : decode (mm_cc M10_isKnownPair) 22 = .ok (.iconst 1, 1) := by decide +kernel
theorem d10_isKnownPair_23 : decode (mm_cc M10_isKnownPair) 23 = .ok (.goto 4, 3) := by decide +kernel
theorem d10_isKnownPair_26 : decode (mm_cc M10_isKnownPair) 26 = .ok (.iconst 0, 1) := by decide +kernel
theorem d10_isKnownPair_27 : decode (mm_cc M10_isKnownPair) 27 = .ok (.ireturn, 1) := by decide +kernel
theorem d10_leastOf_0 : decode (mm_cc M10_leastOf) 0 = .ok (.iconst 0, 1) := by decide +kernel
theorem d10_leastOf_1 : decode (mm_cc M10_leastOf) 1 = .ok (.istore_n 1, 1) := by decide +kernel
theorem d10_leastOf_2 : decode (mm_cc M10_leastOf) 2 = .ok (.iload_n 1, 1) := by decide +kernel
theorem d10_leastOf_3 : decode (mm_cc M10_leastOf) 3 = .ok (.bipush 8, 2) := by decide +kernel
theorem d10_leastOf_5 : decode (mm_cc M10_leastOf) 5 = .ok (.if_icmp .ge 19, 3) := by decide +kernel
theorem d10_leastOf_8 : decode (mm_cc M10_leastOf) 8 = .ok (.iload_n 0, 1) := by decide +kernel
theorem d10_leastOf_9 : decode (mm_cc M10_leastOf) 9 = .ok (.iload_n 1, 1) := by decide +kernel
theorem d10_leastOf_10 : decode (mm_cc M10_leastOf) 10 = .ok (.invokestatic 263, 3) := by decide +kernel
theorem d10_leastOf_13 : decode (mm_cc M10_leastOf) 13 = .ok (.ifCond .eq 5, 3) := by decide +kernel
theorem d10_leastOf_16 : decode (mm_cc M10_leastOf) 16 = .ok (.iload_n 1, 1) := by decide +kernel
theorem d10_leastOf_17 : decode (mm_cc M10_leastOf) 17 = .ok (.ireturn, 1) := by decide +kernel
theorem d10_leastOf_18 : decode (mm_cc M10_leastOf) 18 = .ok (.iinc 1 1, 3) := by decide +kernel
theorem d10_leastOf_21 : decode (mm_cc M10_leastOf) 21 = .ok (.goto (-19), 3) := by decide +kernel
theorem d10_leastOf_24 : decode (mm_cc M10_leastOf) 24 = .ok (.iconst (-1), 1) := by decide +kernel
theorem d10_leastOf_25 : decode (mm_cc M10_leastOf) 25 = .ok (.ireturn, 1) := by decide +kernel
theorem d10_tear_0 : decode (mm_cc M10_tear) 0 = .ok (.aload_n 0, 1) := by decide +kernel
theorem d10_tear_1 : decode (mm_cc M10_tear) 1 = .ok (.getfield 73, 3) := by decide +kernel
theorem d10_tear_4 : decode (mm_cc M10_tear) 4 = .ok (.getfield 206, 3) := by decide +kernel
theorem d10_tear_7 : decode (mm_cc M10_tear) 7 = .ok (.aload_n 0, 1) := by decide +kernel
theorem d10_tear_8 : decode (mm_cc M10_tear) 8 = .ok (.getfield 73, 3) := by decide +kernel
theorem d10_tear_11 : decode (mm_cc M10_tear) 11 = .ok (.getfield 209, 3) := by decide +kernel
theorem d10_tear_14 : decode (mm_cc M10_tear) 14 = .ok (.iadd, 1) := by decide +kernel
theorem d10_tear_15 : decode (mm_cc M10_tear) 15 = .ok (.istore_n 1, 1) := by decide +kernel
theorem d10_tear_16 : decode (mm_cc M10_tear) 16 = .ok (.aload_n 0, 1) := by decide +kernel
theorem d10_tear_17 : decode (mm_cc M10_tear) 17 = .ok (.getfield 73, 3) := by decide +kernel
theorem d10_tear_20 : decode (mm_cc M10_tear) 20 = .ok (.invokevirtual 163, 3) := by decide +kernel
theorem d10_tear_23 : decode (mm_cc M10_tear) 23 = .ok (.iload_n 1, 1) := by decide +kernel
theorem d10_tear_24 : decode (mm_cc M10_tear) 24 = .ok (.ireturn, 1) := by decide +kernel
theorem d10_want_0 : decode (mm_cc M10_want) 0 = .ok (.aload_n 0, 1) := by decide +kernel
theorem d10_want_1 : decode (mm_cc M10_want) 1 = .ok (.getfield 19, 3) := by decide +kernel
theorem d10_want_4 : decode (mm_cc M10_want) 4 = .ok (.iload_n 1, 1) := by decide +kernel
theorem d10_want_5 : decode (mm_cc M10_want) 5 = .ok (.invokevirtual 216, 3) := by decide +kernel
theorem d10_want_8 : decode (mm_cc M10_want) 8 = .ok (.ifCond .ne 6, 3) := by decide +kernel
theorem d10_want_11 : decode (mm_cc M10_want) 11 = .ok (.ldc 220, 2) := by decide +kernel
theorem d10_want_13 : decode (mm_cc M10_want) 13 = .ok (.ireturn, 1) := by decide +kernel
theorem d10_want_14 : decode (mm_cc M10_want) 14 = .ok (.iload_n 2, 1) := by decide +kernel
theorem d10_want_15 : decode (mm_cc M10_want) 15 = .ok (.iconst 0, 1) := by decide +kernel
theorem d10_want_16 : decode (mm_cc M10_want) 16 = .ok (.bipush 8, 2) := by decide +kernel
theorem d10_want_18 : decode (mm_cc M10_want) 18 = .ok (.invokestatic 120, 3) := by decide +kernel
theorem d10_want_21 : decode (mm_cc M10_want) 21 = .ok (.ifCond .ne 6, 3) := by decide +kernel
theorem d10_want_24 : decode (mm_cc M10_want) 24 = .ok (.ldc 124, 2) := by decide +kernel
theorem d10_want_26 : decode (mm_cc M10_want) 26 = .ok (.ireturn, 1) := by decide +kernel
theorem d10_want_27 : decode (mm_cc M10_want) 27 = .ok (.aload_n 0, 1) := by decide +kernel
theorem d10_want_28 : decode (mm_cc M10_want) 28 = .ok (.getfield 66, 3) := by decide +kernel
theorem d10_want_31 : decode (mm_cc M10_want) 31 = .ok (.iload_n 1, 1) := by decide +kernel
theorem d10_want_32 : decode (mm_cc M10_want) 32 = .ok (.invokevirtual 224, 3) := by decide +kernel
theorem d10_want_35 : decode (mm_cc M10_want) 35 = .ok (.istore_n 3, 1) := by decide +kernel
theorem d10_want_36 : decode (mm_cc M10_want) 36 = .ok (.aload_n 0, 1) := by decide +kernel
theorem d10_want_37 : decode (mm_cc M10_want) 37 = .ok (.getfield 66, 3) := by decide +kernel
theorem d10_want_40 : decode (mm_cc M10_want) 40 = .ok (.iload_n 1, 1) := by decide +kernel
theorem d10_want_41 : decode (mm_cc M10_want) 41 = .ok (.iload_n 2, 1) := by decide +kernel
theorem d10_want_42 : decode (mm_cc M10_want) 42 = .ok (.invokevirtual 286, 3) := by decide +kernel
theorem d10_want_45 : decode (mm_cc M10_want) 45 = .ok (.iload_n 3, 1) := by decide +kernel
theorem d10_want_46 : decode (mm_cc M10_want) 46 = .ok (.ireturn, 1) := by decide +kernel
theorem d11_bestOf_0 : decode (mm_cc M11_bestOf) 0 = .ok (.iconst (-1), 1) := by decide +kernel
theorem d11_bestOf_1 : decode (mm_cc M11_bestOf) 1 = .ok (.istore_n 2, 1) := by decide +kernel
theorem d11_bestOf_2 : decode (mm_cc M11_bestOf) 2 = .ok (.iconst 0, 1) := by decide +kernel
theorem d11_bestOf_3 : decode (mm_cc M11_bestOf) 3 = .ok (.istore_n 3, 1) := by decide +kernel
theorem d11_bestOf_4 : decode (mm_cc M11_bestOf) 4 = .ok (.iload_n 3, 1) := by decide +kernel
theorem d11_bestOf_5 : decode (mm_cc M11_bestOf) 5 = .ok (.aload_n 0, 1) := by decide +kernel
theorem d11_bestOf_6 : decode (mm_cc M11_bestOf) 6 = .ok (.getfield 133, 3) := by decide +kernel
theorem d11_bestOf_9 : decode (mm_cc M11_bestOf) 9 = .ok (.if_icmp .ge 53, 3) := by decide +kernel
theorem d11_bestOf_12 : decode (mm_cc M11_bestOf) 12 = .ok (.aload_n 0, 1) := by decide +kernel
theorem d11_bestOf_13 : decode (mm_cc M11_bestOf) 13 = .ok (.iload_n 1, 1) := by decide +kernel
theorem d11_bestOf_14 : decode (mm_cc M11_bestOf) 14 = .ok (.iload_n 3, 1) := by decide +kernel
theorem d11_bestOf_15 : decode (mm_cc M11_bestOf) 15 = .ok (.invokevirtual 143, 3) := by decide +kernel
theorem d11_bestOf_18 : decode (mm_cc M11_bestOf) 18 = .ok (.ifCond .eq 36, 3) := by decide +kernel
theorem d11_bestOf_21 : decode (mm_cc M11_bestOf) 21 = .ok (.iload_n 2, 1) := by decide +kernel
theorem d11_bestOf_22 : decode (mm_cc M11_bestOf) 22 = .ok (.ifCond .lt 28, 3) := by decide +kernel
theorem d11_bestOf_25 : decode (mm_cc M11_bestOf) 25 = .ok (.aload_n 0, 1) := by decide +kernel
theorem d11_bestOf_26 : decode (mm_cc M11_bestOf) 26 = .ok (.getfield 45, 3) := by decide +kernel
theorem d11_bestOf_29 : decode (mm_cc M11_bestOf) 29 = .ok (.bipush 6, 2) := by decide +kernel
theorem d11_bestOf_31 : decode (mm_cc M11_bestOf) 31 = .ok (.iload_n 1, 1) := by decide +kernel
theorem d11_bestOf_32 : decode (mm_cc M11_bestOf) 32 = .ok (.imul, 1) := by decide +kernel
theorem d11_bestOf_33 : decode (mm_cc M11_bestOf) 33 = .ok (.iload_n 3, 1) := by decide +kernel
theorem d11_bestOf_34 : decode (mm_cc M11_bestOf) 34 = .ok (.iadd, 1) := by decide +kernel
theorem d11_bestOf_35 : decode (mm_cc M11_bestOf) 35 = .ok (.iaload, 1) := by decide +kernel
theorem d11_bestOf_36 : decode (mm_cc M11_bestOf) 36 = .ok (.aload_n 0, 1) := by decide +kernel
theorem d11_bestOf_37 : decode (mm_cc M11_bestOf) 37 = .ok (.getfield 45, 3) := by decide +kernel
theorem d11_bestOf_40 : decode (mm_cc M11_bestOf) 40 = .ok (.bipush 6, 2) := by decide +kernel
theorem d11_bestOf_42 : decode (mm_cc M11_bestOf) 42 = .ok (.iload_n 1, 1) := by decide +kernel
theorem d11_bestOf_43 : decode (mm_cc M11_bestOf) 43 = .ok (.imul, 1) := by decide +kernel
theorem d11_bestOf_44 : decode (mm_cc M11_bestOf) 44 = .ok (.iload_n 2, 1) := by decide +kernel
theorem d11_bestOf_45 : decode (mm_cc M11_bestOf) 45 = .ok (.iadd, 1) := by decide +kernel
theorem d11_bestOf_46 : decode (mm_cc M11_bestOf) 46 = .ok (.iaload, 1) := by decide +kernel
theorem d11_bestOf_47 : decode (mm_cc M11_bestOf) 47 = .ok (.if_icmp .le 7, 3) := by decide +kernel
theorem d11_bestOf_50 : decode (mm_cc M11_bestOf) 50 = .ok (.iload_n 3, 1) := by decide +kernel
theorem d11_bestOf_51 : decode (mm_cc M11_bestOf) 51 = .ok (.goto 4, 3) := by decide +kernel
theorem d11_bestOf_54 : decode (mm_cc M11_bestOf) 54 = .ok (.iload_n 2, 1) := by decide +kernel
theorem d11_bestOf_55 : decode (mm_cc M11_bestOf) 55 = .ok (.istore_n 2, 1) := by decide +kernel
theorem d11_bestOf_56 : decode (mm_cc M11_bestOf) 56 = .ok (.iinc 3 1, 3) := by decide +kernel
theorem d11_bestOf_59 : decode (mm_cc M11_bestOf) 59 = .ok (.goto (-55), 3) := by decide +kernel
theorem d11_bestOf_62 : decode (mm_cc M11_bestOf) 62 = .ok (.iload_n 2, 1) := by decide +kernel
theorem d11_bestOf_63 : decode (mm_cc M11_bestOf) 63 = .ok (.ireturn, 1) := by decide +kernel
theorem d11_costOf_0 : decode (mm_cc M11_costOf) 0 = .ok (.aload_n 0, 1) := by decide +kernel
theorem d11_costOf_1 : decode (mm_cc M11_costOf) 1 = .ok (.getfield 45, 3) := by decide +kernel
theorem d11_costOf_4 : decode (mm_cc M11_costOf) 4 = .ok (.bipush 6, 2) := by decide +kernel
theorem d11_costOf_6 : decode (mm_cc M11_costOf) 6 = .ok (.iload_n 1, 1) := by decide +kernel
theorem d11_costOf_7 : decode (mm_cc M11_costOf) 7 = .ok (.imul, 1) := by decide +kernel
theorem d11_costOf_8 : decode (mm_cc M11_costOf) 8 = .ok (.iload_n 2, 1) := by decide +kernel
theorem d11_costOf_9 : decode (mm_cc M11_costOf) 9 = .ok (.iadd, 1) := by decide +kernel
theorem d11_costOf_10 : decode (mm_cc M11_costOf) 10 = .ok (.iaload, 1) := by decide +kernel
theorem d11_costOf_11 : decode (mm_cc M11_costOf) 11 = .ok (.istore_n 3, 1) := by decide +kernel
theorem d11_costOf_12 : decode (mm_cc M11_costOf) 12 = .ok (.aload_n 0, 1) := by decide +kernel
theorem d11_costOf_13 : decode (mm_cc M11_costOf) 13 = .ok (.getfield 7, 3) := by decide +kernel
theorem d11_costOf_16 : decode (mm_cc M11_costOf) 16 = .ok (.iconst 4, 1) := by decide +kernel
theorem d11_costOf_17 : decode (mm_cc M11_costOf) 17 = .ok (.iload_n 2, 1) := by decide +kernel
theorem d11_costOf_18 : decode (mm_cc M11_costOf) 18 = .ok (.imul, 1) := by decide +kernel
theorem d11_costOf_19 : decode (mm_cc M11_costOf) 19 = .ok (.iconst 1, 1) := by decide +kernel
theorem d11_costOf_20 : decode (mm_cc M11_costOf) 20 = .ok (.iadd, 1) := by decide +kernel
theorem d11_costOf_21 : decode (mm_cc M11_costOf) 21 = .ok (.iaload, 1) := by decide +kernel
theorem d11_costOf_22 : decode (mm_cc M11_costOf) 22 = .ok (.istore 4, 2) := by decide +kernel
theorem d11_costOf_24 : decode (mm_cc M11_costOf) 24 = .ok (.iload_n 3, 1) := by decide +kernel
theorem d11_costOf_25 : decode (mm_cc M11_costOf) 25 = .ok (.ifCond .le 27, 3) := by decide +kernel
theorem d11_costOf_28 : decode (mm_cc M11_costOf) 28 = .ok (.iload_n 3, 1) := by decide +kernel
theorem d11_costOf_29 : decode (mm_cc M11_costOf) 29 = .ok (.bipush 50, 2) := by decide +kernel
theorem d11_costOf_31 : decode (mm_cc M11_costOf) 31 = .ok (.if_icmp .lt 7, 3) := by decide +kernel
theorem d11_costOf_34 : decode (mm_cc M11_costOf) 34 = .ok (.iconst 0, 1) := by decide +kernel
theorem d11_costOf_35 : decode (mm_cc M11_costOf) 35 = .ok (.goto 16, 3) := by decide +kernel
theorem d11_costOf_38 : decode (mm_cc M11_costOf) 38 = .ok (.iload 4, 2) := by decide +kernel
theorem d11_costOf_40 : decode (mm_cc M11_costOf) 40 = .ok (.bipush 100, 2) := by decide +kernel
theorem d11_costOf_42 : decode (mm_cc M11_costOf) 42 = .ok (.iload_n 3, 1) := by decide +kernel
theorem d11_costOf_43 : decode (mm_cc M11_costOf) 43 = .ok (.isub, 1) := by decide +kernel
theorem d11_costOf_44 : decode (mm_cc M11_costOf) 44 = .ok (.imul, 1) := by decide +kernel
theorem d11_costOf_45 : decode (mm_cc M11_costOf) 45 = .ok (.bipush 99, 2) := by decide +kernel
theorem d11_costOf_47 : decode (mm_cc M11_costOf) 47 = .ok (.iadd, 1) := by decide +kernel
theorem d11_costOf_48 : decode (mm_cc M11_costOf) 48 = .ok (.bipush 100, 2) := by decide +kernel
theorem d11_costOf_50 : decode (mm_cc M11_costOf) 50 = .ok (.idiv, 1) := by decide +kernel
theorem d11_costOf_51 : decode (mm_cc M11_costOf) 51 = .ok (.ireturn, 1) := by decide +kernel
theorem d11_costOf_52 : decode (mm_cc M11_costOf) 52 = .ok (.aload_n 0, 1) := by decide +kernel
theorem d11_costOf_53 : decode (mm_cc M11_costOf) 53 = .ok (.getfield 7, 3) := by decide +kernel
theorem d11_costOf_56 : decode (mm_cc M11_costOf) 56 = .ok (.iconst 4, 1) := by decide +kernel
theorem d11_costOf_57 : decode (mm_cc M11_costOf) 57 = .ok (.iload_n 2, 1) := by decide +kernel
theorem d11_costOf_58 : decode (mm_cc M11_costOf) 58 = .ok (.imul, 1) := by decide +kernel
theorem d11_costOf_59 : decode (mm_cc M11_costOf) 59 = .ok (.iconst 3, 1) := by decide +kernel
theorem d11_costOf_60 : decode (mm_cc M11_costOf) 60 = .ok (.iadd, 1) := by decide +kernel
theorem d11_costOf_61 : decode (mm_cc M11_costOf) 61 = .ok (.iaload, 1) := by decide +kernel
theorem d11_costOf_62 : decode (mm_cc M11_costOf) 62 = .ok (.istore 5, 2) := by decide +kernel
theorem d11_costOf_64 : decode (mm_cc M11_costOf) 64 = .ok (.aload_n 0, 1) := by decide +kernel
theorem d11_costOf_65 : decode (mm_cc M11_costOf) 65 = .ok (.getfield 7, 3) := by decide +kernel
theorem d11_costOf_68 : decode (mm_cc M11_costOf) 68 = .ok (.iconst 4, 1) := by decide +kernel
theorem d11_costOf_69 : decode (mm_cc M11_costOf) 69 = .ok (.iload_n 2, 1) := by decide +kernel
theorem d11_costOf_70 : decode (mm_cc M11_costOf) 70 = .ok (.imul, 1) := by decide +kernel
theorem d11_costOf_71 : decode (mm_cc M11_costOf) 71 = .ok (.iaload, 1) := by decide +kernel
theorem d11_costOf_72 : decode (mm_cc M11_costOf) 72 = .ok (.iconst 3, 1) := by decide +kernel
theorem d11_costOf_73 : decode (mm_cc M11_costOf) 73 = .ok (.if_icmp .eq 18, 3) := by decide +kernel
theorem d11_costOf_76 : decode (mm_cc M11_costOf) 76 = .ok (.iload 5, 2) := by decide +kernel
theorem d11_costOf_78 : decode (mm_cc M11_costOf) 78 = .ok (.ifCond .lt 19, 3) := by decide +kernel
theorem d11_costOf_81 : decode (mm_cc M11_costOf) 81 = .ok (.aload_n 0, 1) := by decide +kernel
theorem d11_costOf_82 : decode (mm_cc M11_costOf) 82 = .ok (.iload_n 1, 1) := by decide +kernel
theorem d11_costOf_83 : decode (mm_cc M11_costOf) 83 = .ok (.iload 5, 2) := by decide +kernel
theorem d11_costOf_85 : decode (mm_cc M11_costOf) 85 = .ok (.invokevirtual 143, 3) := by decide +kernel
theorem d11_costOf_88 : decode (mm_cc M11_costOf) 88 = .ok (.ifCond .ne 9, 3) := by decide +kernel
theorem d11_costOf_91 : decode (mm_cc M11_costOf) 91 = .ok (.ldc_w 354, 3) := by decide +kernel
theorem d11_costOf_94 : decode (mm_cc M11_costOf) 94 = .ok (.goto 5, 3) := by decide +kernel
theorem d11_costOf_97 : decode (mm_cc M11_costOf) 97 = .ok (.iload 4, 2) := by decide +kernel
theorem d11_costOf_99 : decode (mm_cc M11_costOf) 99 = .ok (.ireturn, 1) := by decide +kernel
theorem d11_deadSet_0 : decode (mm_cc M11_deadSet) 0 = .ok (.iconst 0, 1) := by decide +kernel
theorem d11_deadSet_1 : decode (mm_cc M11_deadSet) 1 = .ok (.istore_n 1, 1) := by decide +kernel
theorem d11_deadSet_2 : decode (mm_cc M11_deadSet) 2 = .ok (.iconst 0, 1) := by decide +kernel
theorem d11_deadSet_3 : decode (mm_cc M11_deadSet) 3 = .ok (.istore_n 2, 1) := by decide +kernel
theorem d11_deadSet_4 : decode (mm_cc M11_deadSet) 4 = .ok (.iload_n 2, 1) := by decide +kernel
theorem d11_deadSet_5 : decode (mm_cc M11_deadSet) 5 = .ok (.aload_n 0, 1) := by decide +kernel
theorem d11_deadSet_6 : decode (mm_cc M11_deadSet) 6 = .ok (.getfield 133, 3) := by decide +kernel
theorem d11_deadSet_9 : decode (mm_cc M11_deadSet) 9 = .ok (.if_icmp .ge 28, 3) := by decide +kernel
theorem d11_deadSet_12 : decode (mm_cc M11_deadSet) 12 = .ok (.iload_n 1, 1) := by decide +kernel
theorem d11_deadSet_13 : decode (mm_cc M11_deadSet) 13 = .ok (.aload_n 0, 1) := by decide +kernel
theorem d11_deadSet_14 : decode (mm_cc M11_deadSet) 14 = .ok (.iload_n 2, 1) := by decide +kernel
theorem d11_deadSet_15 : decode (mm_cc M11_deadSet) 15 = .ok (.iconst 1, 1) := by decide +kernel
theorem d11_deadSet_16 : decode (mm_cc M11_deadSet) 16 = .ok (.invokevirtual 258, 3) := by decide +kernel
theorem d11_deadSet_19 : decode (mm_cc M11_deadSet) 19 = .ok (.ifCond .ne 9, 3) := by decide +kernel
theorem d11_deadSet_22 : decode (mm_cc M11_deadSet) 22 = .ok (.iconst 1, 1) := by decide +kernel
theorem d11_deadSet_23 : decode (mm_cc M11_deadSet) 23 = .ok (.iload_n 2, 1) := by decide +kernel
theorem d11_deadSet_24 : decode (mm_cc M11_deadSet) 24 = .ok (.ishl, 1) := by decide +kernel
theorem d11_deadSet_25 : decode (mm_cc M11_deadSet) 25 = .ok (.goto 4, 3) := by decide +kernel
theorem d11_deadSet_28 : decode (mm_cc M11_deadSet) 28 = .ok (.iconst 0, 1) := by decide +kernel
theorem d11_deadSet_29 : decode (mm_cc M11_deadSet) 29 = .ok (.ior, 1) := by decide +kernel
theorem d11_deadSet_30 : decode (mm_cc M11_deadSet) 30 = .ok (.istore_n 1, 1) := by decide +kernel
theorem d11_deadSet_31 : decode (mm_cc M11_deadSet) 31 = .ok (.iinc 2 1, 3) := by decide +kernel
theorem d11_deadSet_34 : decode (mm_cc M11_deadSet) 34 = .ok (.goto (-30), 3) := by decide +kernel
theorem d11_deadSet_37 : decode (mm_cc M11_deadSet) 37 = .ok (.iload_n 1, 1) := by decide +kernel
theorem d11_deadSet_38 : decode (mm_cc M11_deadSet) 38 = .ok (.ireturn, 1) := by decide +kernel
theorem d11_feed_0 : decode (mm_cc M11_feed) 0 = .ok (.iload_n 1, 1) := by decide +kernel
theorem d11_feed_1 : decode (mm_cc M11_feed) 1 = .ok (.i2l, 1) := by decide +kernel
theorem d11_feed_2 : decode (mm_cc M11_feed) 2 = .ok (.lconst 1, 1) := by decide +kernel
theorem d11_feed_3 : decode (mm_cc M11_feed) 3 = .ok (.ldc2_w 154, 3) := by decide +kernel
theorem d11_feed_6 : decode (mm_cc M11_feed) 6 = .ok (.invokestatic 136, 3) := by decide +kernel
theorem d11_feed_9 : decode (mm_cc M11_feed) 9 = .ok (.ifCond .ne 6, 3) := by decide +kernel
theorem d11_feed_12 : decode (mm_cc M11_feed) 12 = .ok (.ldc 156, 2) := by decide +kernel
theorem d11_feed_14 : decode (mm_cc M11_feed) 14 = .ok (.ireturn, 1) := by decide +kernel
theorem d11_feed_15 : decode (mm_cc M11_feed) 15 = .ok (.aload_n 0, 1) := by decide +kernel
theorem d11_feed_16 : decode (mm_cc M11_feed) 16 = .ok (.getfield 157, 3) := by decide +kernel
theorem d11_feed_19 : decode (mm_cc M11_feed) 19 = .ok (.iload_n 1, 1) := by decide +kernel
theorem d11_feed_20 : decode (mm_cc M11_feed) 20 = .ok (.iadd, 1) := by decide +kernel
theorem d11_feed_21 : decode (mm_cc M11_feed) 21 = .ok (.sipush 500, 3) := by decide +kernel
theorem d11_feed_24 : decode (mm_cc M11_feed) 24 = .ok (.if_icmp .le 6, 3) := by decide +kernel
theorem d11_feed_27 : decode (mm_cc M11_feed) 27 = .ok (.ldc 160, 2) := by decide +kernel
theorem d11_feed_29 : decode (mm_cc M11_feed) 29 = .ok (.ireturn, 1) := by decide +kernel
theorem d11_feed_30 : decode (mm_cc M11_feed) 30 = .ok (.iload_n 1, 1) := by decide +kernel
theorem d11_feed_31 : decode (mm_cc M11_feed) 31 = .ok (.iconst 1, 1) := by decide +kernel
theorem d11_feed_32 : decode (mm_cc M11_feed) 32 = .ok (.isub, 1) := by decide +kernel
theorem d11_feed_33 : decode (mm_cc M11_feed) 33 = .ok (.istore 4, 2) := by decide +kernel
theorem d11_feed_35 : decode (mm_cc M11_feed) 35 = .ok (.iload 4, 2) := by decide +kernel
theorem d11_feed_37 : decode (mm_cc M11_feed) 37 = .ok (.ifCond .lt 40, 3) := by decide +kernel
theorem d11_feed_40 : decode (mm_cc M11_feed) 40 = .ok (.aload_n 0, 1) := by decide +kernel
theorem d11_feed_41 : decode (mm_cc M11_feed) 41 = .ok (.getfield 75, 3) := by decide +kernel
theorem d11_feed_44 : decode (mm_cc M11_feed) 44 = .ok (.aload_n 0, 1) := by decide +kernel
theorem d11_feed_45 : decode (mm_cc M11_feed) 45 = .ok (.getfield 157, 3) := by decide +kernel
theorem d11_feed_48 : decode (mm_cc M11_feed) 48 = .ok (.lload_n 2, 1) := by decide +kernel
theorem d11_feed_49 : decode (mm_cc M11_feed) 49 = .ok (.bipush 8, 2) := by decide +kernel
theorem d11_feed_51 : decode (mm_cc M11_feed) 51 = .ok (.iload 4, 2) := by decide +kernel
theorem d11_feed_53 : decode (mm_cc M11_feed) 53 = .ok (.imul, 1) := by decide +kernel
theorem d11_feed_54 : decode (mm_cc M11_feed) 54 = .ok (.lshr, 1) := by decide +kernel
theorem d11_feed_55 : decode (mm_cc M11_feed) 55 = .ok (.ldc2_w 161, 3) := by decide +kernel
theorem d11_feed_58 : decode (mm_cc M11_feed) 58 = .ok (.land, 1) := by decide +kernel
theorem d11_feed_59 : decode (mm_cc M11_feed) 59 = .ok (.l2i, 1) := by decide +kernel
theorem d11_feed_60 : decode (mm_cc M11_feed) 60 = .ok (.iastore, 1) := by decide +kernel
theorem d11_feed_61 : decode (mm_cc M11_feed) 61 = .ok (.aload_n 0, 1) := by decide +kernel
theorem d11_feed_62 : decode (mm_cc M11_feed) 62 = .ok (.dup, 1) := by decide +kernel
theorem d11_feed_63 : decode (mm_cc M11_feed) 63 = .ok (.getfield 157, 3) := by decide +kernel
theorem d11_feed_66 : decode (mm_cc M11_feed) 66 = .ok (.iconst 1, 1) := by decide +kernel
theorem d11_feed_67 : decode (mm_cc M11_feed) 67 = .ok (.iadd, 1) := by decide +kernel
theorem d11_feed_68 : decode (mm_cc M11_feed) 68 = .ok (.putfield 157, 3) := by decide +kernel
theorem d11_feed_71 : decode (mm_cc M11_feed) 71 = .ok (.iinc 4 (-1), 3) := by decide +kernel
theorem d11_feed_74 : decode (mm_cc M11_feed) 74 = .ok (.goto (-39), 3) := by decide +kernel
theorem d11_feed_77 : decode (mm_cc M11_feed) 77 = .ok (.aload_n 0, 1) := by decide +kernel
theorem d11_feed_78 : decode (mm_cc M11_feed) 78 = .ok (.getfield 157, 3) := by decide +kernel
theorem d11_feed_81 : decode (mm_cc M11_feed) 81 = .ok (.ireturn, 1) := by decide +kernel
theorem d11_findWitnesses_0 : decode (mm_cc M11_findWitnesses) 0 = .ok (.iconst 0, 1) := by decide +kernel
theorem d11_findWitnesses_1 : decode (mm_cc M11_findWitnesses) 1 = .ok (.istore_n 3, 1) := by decide +kernel
theorem d11_findWitnesses_2 : decode (mm_cc M11_findWitnesses) 2 = .ok (.iconst 0, 1) := by decide +kernel
theorem d11_findWitnesses_3 : decode (mm_cc M11_findWitnesses) 3 = .ok (.istore 4, 2) := by decide +kernel
theorem d11_findWitnesses_5 : decode (mm_cc M11_findWitnesses) 5 = .ok (.iload 4, 2) := by decide +kernel
theorem d11_findWitnesses_7 : decode (mm_cc M11_findWitnesses) 7 = .ok (.aload_n 0, 1) := by decide +kernel
theorem d11_findWitnesses_8 : decode (mm_cc M11_findWitnesses) 8 = .ok (.getfield 140, 3) := by decide +kernel
theorem d11_findWitnesses_11 : decode (mm_cc M11_findWitnesses) 11 = .ok (.if_icmp .ge 85, 3) := by decide +kernel
theorem d11_findWitnesses_14 : decode (mm_cc M11_findWitnesses) 14 = .ok (.iload_n 3, 1) := by decide +kernel
theorem d11_findWitnesses_15 : decode (mm_cc M11_findWitnesses) 15 = .ok (.invokestatic 278, 3) := by decide +kernel
theorem d11_findWitnesses_18 : decode (mm_cc M11_findWitnesses) 18 = .ok (.aload_n 0, 1) := by decide +kernel
theorem d11_findWitnesses_19 : decode (mm_cc M11_findWitnesses) 19 = .ok (.getfield 26, 3) := by decide +kernel
theorem d11_findWitnesses_22 : decode (mm_cc M11_findWitnesses) 22 = .ok (.if_icmp .ge 74, 3) := by decide +kernel
theorem d11_findWitnesses_25 : decode (mm_cc M11_findWitnesses) 25 = .ok (.iload 4, 2) := by decide +kernel
theorem d11_findWitnesses_27 : decode (mm_cc M11_findWitnesses) 27 = .ok (.iload_n 1, 1) := by decide +kernel
theorem d11_findWitnesses_28 : decode (mm_cc M11_findWitnesses) 28 = .ok (.if_icmp .eq 43, 3) := by decide +kernel
theorem d11_findWitnesses_31 : decode (mm_cc M11_findWitnesses) 31 = .ok (.iload 4, 2) := by decide +kernel
theorem d11_findWitnesses_33 : decode (mm_cc M11_findWitnesses) 33 = .ok (.iload_n 2, 1) := by decide +kernel
theorem d11_findWitnesses_34 : decode (mm_cc M11_findWitnesses) 34 = .ok (.if_icmp .eq 37, 3) := by decide +kernel
theorem d11_findWitnesses_37 : decode (mm_cc M11_findWitnesses) 37 = .ok (.aload_n 0, 1) := by decide +kernel
theorem d11_findWitnesses_38 : decode (mm_cc M11_findWitnesses) 38 = .ok (.getfield 41, 3) := by decide +kernel
theorem d11_findWitnesses_41 : decode (mm_cc M11_findWitnesses) 41 = .ok (.iload 4, 2) := by decide +kernel
theorem d11_findWitnesses_43 : decode (mm_cc M11_findWitnesses) 43 = .ok (.baload, 1) := by decide +kernel
theorem d11_findWitnesses_44 : decode (mm_cc M11_findWitnesses) 44 = .ok (.ifCond .eq 27, 3) := by decide +kernel
theorem d11_findWitnesses_47 : decode (mm_cc M11_findWitnesses) 47 = .ok (.aload_n 0, 1) := by decide +kernel
theorem d11_findWitnesses_48 : decode (mm_cc M11_findWitnesses) 48 = .ok (.getfield 54, 3) := by decide +kernel
theorem d11_findWitnesses_51 : decode (mm_cc M11_findWitnesses) 51 = .ok (.iload 4, 2) := by decide +kernel
theorem d11_findWitnesses_53 : decode (mm_cc M11_findWitnesses) 53 = .ok (.iaload, 1) := by decide +kernel
theorem d11_findWitnesses_54 : decode (mm_cc M11_findWitnesses) 54 = .ok (.ifCond .ge 17, 3) := by decide +kernel
theorem d11_findWitnesses_57 : decode (mm_cc M11_findWitnesses) 57 = .ok (.aload_n 0, 1) := by decide +kernel
theorem d11_findWitnesses_58 : decode (mm_cc M11_findWitnesses) 58 = .ok (.getfield 66, 3) := by decide +kernel
theorem d11_findWitnesses_61 : decode (mm_cc M11_findWitnesses) 61 = .ok (.iload 4, 2) := by decide +kernel
theorem d11_findWitnesses_63 : decode (mm_cc M11_findWitnesses) 63 = .ok (.baload, 1) := by decide +kernel
theorem d11_findWitnesses_64 : decode (mm_cc M11_findWitnesses) 64 = .ok (.ifCond .ne 7, 3) := by decide +kernel
theorem d11_findWitnesses_67 : decode (mm_cc M11_findWitnesses) 67 = .ok (.iconst 1, 1) := by decide +kernel
theorem d11_findWitnesses_68 : decode (mm_cc M11_findWitnesses) 68 = .ok (.goto 4, 3) := by decide +kernel
theorem d11_findWitnesses_71 : decode (mm_cc M11_findWitnesses) 71 = .ok (.iconst 0, 1) := by decide +kernel
theorem d11_findWitnesses_72 : decode (mm_cc M11_findWitnesses) 72 = .ok (.istore 5, 2) := by decide +kernel
theorem d11_findWitnesses_74 : decode (mm_cc M11_findWitnesses) 74 = .ok (.iload_n 3, 1) := by decide +kernel
theorem d11_findWitnesses_75 : decode (mm_cc M11_findWitnesses) 75 = .ok (.iload 5, 2) := by decide +kernel
theorem d11_findWitnesses_77 : decode (mm_cc M11_findWitnesses) 77 = .ok (.ifCond .eq 10, 3) := by decide +kernel
theorem d11_findWitnesses_80 : decode (mm_cc M11_findWitnesses) 80 = .ok (.iconst 1, 1) := by decide +kernel
theorem d11_findWitnesses_81 : decode (mm_cc M11_findWitnesses) 81 = .ok (.iload 4, 2) := by decide +kernel
theorem d11_findWitnesses_83 : decode (mm_cc M11_findWitnesses) 83 = .ok (.ishl, 1) := by decide +kernel
theorem d11_findWitnesses_84 : decode (mm_cc M11_findWitnesses) 84 = .ok (.goto 4, 3) := by decide +kernel
theorem d11_findWitnesses_87 : decode (mm_cc M11_findWitnesses) 87 = .ok (.iconst 0, 1) := by decide +kernel
theorem d11_findWitnesses_88 : decode (mm_cc M11_findWitnesses) 88 = .ok (.ior, 1) := by decide +kernel
theorem d11_findWitnesses_89 : decode (mm_cc M11_findWitnesses) 89 = .ok (.istore_n 3, 1) := by decide +kernel
theorem d11_findWitnesses_90 : decode (mm_cc M11_findWitnesses) 90 = .ok (.iinc 4 1, 3) := by decide +kernel
theorem d11_findWitnesses_93 : decode (mm_cc M11_findWitnesses) 93 = .ok (.goto (-88), 3) := by decide +kernel
theorem d11_findWitnesses_96 : decode (mm_cc M11_findWitnesses) 96 = .ok (.iload_n 3, 1) := by decide +kernel
theorem d11_findWitnesses_97 : decode (mm_cc M11_findWitnesses) 97 = .ok (.invokestatic 278, 3) := by decide +kernel
theorem d11_findWitnesses_100 : decode (mm_cc M11_findWitnesses) 100 = .ok (.aload_n 0, 1) := by decide +kernel
theorem d11_findWitnesses_101 : decode (mm_cc M11_findWitnesses) 101 = .ok (.getfield 26, 3) := by decide +kernel
theorem d11_findWitnesses_104 : decode (mm_cc M11_findWitnesses) 104 = .ok (.if_icmp .ge 7, 3) := by decide +kernel
theorem d11_findWitnesses_107 : decode (mm_cc M11_findWitnesses) 107 = .ok (.iconst (-1), 1) := by decide +kernel
theorem d11_findWitnesses_108 : decode (mm_cc M11_findWitnesses) 108 = .ok (.goto 4, 3) := by decide +kernel
theorem d11_findWitnesses_111 : decode (mm_cc M11_findWitnesses) 111 = .ok (.iload_n 3, 1) := by decide +kernel
theorem d11_findWitnesses_112 : decode (mm_cc M11_findWitnesses) 112 = .ok (.ireturn, 1) := by decide +kernel
theorem d11_fits_0 : decode (mm_cc M11_fits) 0 = .ok (.iload_n 1, 1) := by decide +kernel
theorem d11_fits_1 : decode (mm_cc M11_fits) 1 = .ok (.i2l, 1) := by decide +kernel
theorem d11_fits_2 : decode (mm_cc M11_fits) 2 = .ok (.lconst 0, 1) := by decide +kernel
theorem d11_fits_3 : decode (mm_cc M11_fits) 3 = .ok (.ldc2_w 154, 3) := by decide +kernel
theorem d11_fits_6 : decode (mm_cc M11_fits) 6 = .ok (.invokestatic 136, 3) := by decide +kernel
theorem d11_fits_9 : decode (mm_cc M11_fits) 9 = .ok (.ifCond .eq 15, 3) := by decide +kernel
theorem d11_fits_12 : decode (mm_cc M11_fits) 12 = .ok (.iload_n 2, 1) := by decide +kernel
theorem d11_fits_13 : decode (mm_cc M11_fits) 13 = .ok (.i2l, 1) := by decide +kernel
theorem d11_fits_14 : decode (mm_cc M11_fits) 14 = .ok (.lconst 0, 1) := by decide +kernel
theorem d11_fits_15 : decode (mm_cc M11_fits) 15 = .ok (.ldc2_w 389, 3) := by decide +kernel
theorem d11_fits_18 : decode (mm_cc M11_fits) 18 = .ok (.invokestatic 136, 3) := by decide +kernel
theorem d11_fits_21 : decode (mm_cc M11_fits) 21 = .ok (.ifCond .ne 6, 3) := by decide +kernel
theorem d11_fits_24 : decode (mm_cc M11_fits) 24 = .ok (.ldc 156, 2) := by decide +kernel
theorem d11_fits_26 : decode (mm_cc M11_fits) 26 = .ok (.ireturn, 1) := by decide +kernel
theorem d11_fits_27 : decode (mm_cc M11_fits) 27 = .ok (.aload_n 0, 1) := by decide +kernel
theorem d11_fits_28 : decode (mm_cc M11_fits) 28 = .ok (.invokevirtual 261, 3) := by decide +kernel
theorem d11_fits_31 : decode (mm_cc M11_fits) 31 = .ok (.istore_n 3, 1) := by decide +kernel
theorem d11_fits_32 : decode (mm_cc M11_fits) 32 = .ok (.iconst 0, 1) := by decide +kernel
theorem d11_fits_33 : decode (mm_cc M11_fits) 33 = .ok (.istore 4, 2) := by decide +kernel
theorem d11_fits_35 : decode (mm_cc M11_fits) 35 = .ok (.iconst 0, 1) := by decide +kernel
theorem d11_fits_36 : decode (mm_cc M11_fits) 36 = .ok (.istore 5, 2) := by decide +kernel
theorem d11_fits_38 : decode (mm_cc M11_fits) 38 = .ok (.iload_n 3, 1) := by decide +kernel
theorem d11_fits_39 : decode (mm_cc M11_fits) 39 = .ok (.istore 6, 2) := by decide +kernel
theorem d11_fits_41 : decode (mm_cc M11_fits) 41 = .ok (.iconst 0, 1) := by decide +kernel
theorem d11_fits_42 : decode (mm_cc M11_fits) 42 = .ok (.istore 7, 2) := by decide +kernel
theorem d11_fits_44 : decode (mm_cc M11_fits) 44 = .ok (.iload 7, 2) := by decide +kernel
theorem d11_fits_46 : decode (mm_cc M11_fits) 46 = .ok (.iconst 1, 1) := by decide +kernel
theorem d11_fits_47 : decode (mm_cc M11_fits) 47 = .ok (.aload_n 0, 1) := by decide +kernel
theorem d11_fits_48 : decode (mm_cc M11_fits) 48 = .ok (.getfield 140, 3) := by decide +kernel
theorem d11_fits_51 : decode (mm_cc M11_fits) 51 = .ok (.ishl, 1) := by decide +kernel
theorem d11_fits_52 : decode (mm_cc M11_fits) 52 = .ok (.if_icmp .ge 118, 3) := by decide +kernel
theorem d11_fits_55 : decode (mm_cc M11_fits) 55 = .ok (.iload 7, 2) := by decide +kernel
theorem d11_fits_57 : decode (mm_cc M11_fits) 57 = .ok (.invokestatic 278, 3) := by decide +kernel
theorem d11_fits_60 : decode (mm_cc M11_fits) 60 = .ok (.iload_n 1, 1) := by decide +kernel
theorem d11_fits_61 : decode (mm_cc M11_fits) 61 = .ok (.if_icmp .ne 103, 3) := by decide +kernel
theorem d11_fits_64 : decode (mm_cc M11_fits) 64 = .ok (.iload 7, 2) := by decide +kernel
theorem d11_fits_66 : decode (mm_cc M11_fits) 66 = .ok (.iload_n 3, 1) := by decide +kernel
theorem d11_fits_67 : decode (mm_cc M11_fits) 67 = .ok (.iconst (-1), 1) := by decide +kernel
theorem d11_fits_68 : decode (mm_cc M11_fits) 68 = .ok (.ixor, 1) := by decide +kernel
theorem d11_fits_69 : decode (mm_cc M11_fits) 69 = .ok (.iand, 1) := by decide +kernel
theorem d11_fits_70 : decode (mm_cc M11_fits) 70 = .ok (.ifCond .ne 94, 3) := by decide +kernel
theorem d11_fits_73 : decode (mm_cc M11_fits) 73 = .ok (.iinc 5 1, 3) := by decide +kernel
theorem d11_fits_76 : decode (mm_cc M11_fits) 76 = .ok (.iconst 1, 1) := by decide +kernel
theorem d11_fits_77 : decode (mm_cc M11_fits) 77 = .ok (.istore 8, 2) := by decide +kernel
theorem d11_fits_79 : decode (mm_cc M11_fits) 79 = .ok (.iconst 0, 1) := by decide +kernel
theorem d11_fits_80 : decode (mm_cc M11_fits) 80 = .ok (.istore 9, 2) := by decide +kernel
theorem d11_fits_82 : decode (mm_cc M11_fits) 82 = .ok (.iload 9, 2) := by decide +kernel
theorem d11_fits_84 : decode (mm_cc M11_fits) 84 = .ok (.aload_n 0, 1) := by decide +kernel
theorem d11_fits_85 : decode (mm_cc M11_fits) 85 = .ok (.getfield 244, 3) := by decide +kernel
theorem d11_fits_88 : decode (mm_cc M11_fits) 88 = .ok (.if_icmp .ge 45, 3) := by decide +kernel
theorem d11_fits_91 : decode (mm_cc M11_fits) 91 = .ok (.iload 8, 2) := by decide +kernel
theorem d11_fits_93 : decode (mm_cc M11_fits) 93 = .ok (.ifCond .eq 31, 3) := by decide +kernel
theorem d11_fits_96 : decode (mm_cc M11_fits) 96 = .ok (.iload 7, 2) := by decide +kernel
theorem d11_fits_98 : decode (mm_cc M11_fits) 98 = .ok (.aload_n 0, 1) := by decide +kernel
theorem d11_fits_99 : decode (mm_cc M11_fits) 99 = .ok (.aload_n 0, 1) := by decide +kernel
theorem d11_fits_100 : decode (mm_cc M11_fits) 100 = .ok (.getfield 108, 3) := by decide +kernel
theorem d11_fits_103 : decode (mm_cc M11_fits) 103 = .ok (.iload 9, 2) := by decide +kernel
theorem d11_fits_105 : decode (mm_cc M11_fits) 105 = .ok (.iaload, 1) := by decide +kernel
theorem d11_fits_106 : decode (mm_cc M11_fits) 106 = .ok (.aload_n 0, 1) := by decide +kernel
theorem d11_fits_107 : decode (mm_cc M11_fits) 107 = .ok (.getfield 111, 3) := by decide +kernel
theorem d11_fits_110 : decode (mm_cc M11_fits) 110 = .ok (.iload 9, 2) := by decide +kernel
theorem d11_fits_112 : decode (mm_cc M11_fits) 112 = .ok (.iaload, 1) := by decide +kernel
theorem d11_fits_113 : decode (mm_cc M11_fits) 113 = .ok (.invokevirtual 258, 3) := by decide +kernel
theorem d11_fits_116 : decode (mm_cc M11_fits) 116 = .ok (.iand, 1) := by decide +kernel
theorem d11_fits_117 : decode (mm_cc M11_fits) 117 = .ok (.ifCond .eq 7, 3) := by decide +kernel
theorem d11_fits_120 : decode (mm_cc M11_fits) 120 = .ok (.iconst 1, 1) := by decide +kernel
theorem d11_fits_121 : decode (mm_cc M11_fits) 121 = .ok (.goto 4, 3) := by decide +kernel
theorem d11_fits_124 : decode (mm_cc M11_fits) 124 = .ok (.iconst 0, 1) := by decide +kernel
theorem d11_fits_125 : decode (mm_cc M11_fits) 125 = .ok (.istore 8, 2) := by decide +kernel
theorem d11_fits_127 : decode (mm_cc M11_fits) 127 = .ok (.iinc 9 1, 3) := by decide +kernel
theorem d11_fits_130 : decode (mm_cc M11_fits) 130 = .ok (.goto (-48), 3) := by decide +kernel
theorem d11_fits_133 : decode (mm_cc M11_fits) 133 = .ok (.iload 4, 2) := by decide +kernel
theorem d11_fits_135 : decode (mm_cc M11_fits) 135 = .ok (.iload 8, 2) := by decide +kernel
theorem d11_fits_137 : decode (mm_cc M11_fits) 137 = .ok (.ifCond .eq 7, 3) := by decide +kernel
theorem d11_fits_140 : decode (mm_cc M11_fits) 140 = .ok (.iconst 1, 1) := by decide +kernel
theorem d11_fits_141 : decode (mm_cc M11_fits) 141 = .ok (.goto 4, 3) := by decide +kernel
theorem d11_fits_144 : decode (mm_cc M11_fits) 144 = .ok (.iconst 0, 1) := by decide +kernel
theorem d11_fits_145 : decode (mm_cc M11_fits) 145 = .ok (.iadd, 1) := by decide +kernel
theorem d11_fits_146 : decode (mm_cc M11_fits) 146 = .ok (.istore 4, 2) := by decide +kernel
theorem d11_fits_148 : decode (mm_cc M11_fits) 148 = .ok (.iload 6, 2) := by decide +kernel
theorem d11_fits_150 : decode (mm_cc M11_fits) 150 = .ok (.iload 8, 2) := by decide +kernel
theorem d11_fits_152 : decode (mm_cc M11_fits) 152 = .ok (.ifCond .eq 8, 3) := by decide +kernel
theorem d11_fits_155 : decode (mm_cc M11_fits) 155 = .ok (.iload 7, 2) := by decide +kernel
theorem d11_fits_157 : decode (mm_cc M11_fits) 157 = .ok (.goto 4, 3) := by decide +kernel
theorem d11_fits_160 : decode (mm_cc M11_fits) 160 = .ok (.iconst (-1), 1) := by decide +kernel
theorem d11_fits_161 : decode (mm_cc M11_fits) 161 = .ok (.iand, 1) := by decide +kernel
theorem d11_fits_162 : decode (mm_cc M11_fits) 162 = .ok (.istore 6, 2) := by decide +kernel
theorem d11_fits_164 : decode (mm_cc M11_fits) 164 = .ok (.iinc 7 1, 3) := by decide +kernel
theorem d11_fits_167 : decode (mm_cc M11_fits) 167 = .ok (.goto (-123), 3) := by decide +kernel
theorem d11_fits_170 : decode (mm_cc M11_fits) 170 = .ok (.iload_n 2, 1) := by decide +kernel
theorem d11_fits_171 : decode (mm_cc M11_fits) 171 = .ok (.ifCond .ne 8, 3) := by decide +kernel
theorem d11_fits_174 : decode (mm_cc M11_fits) 174 = .ok (.iload 4, 2) := by decide +kernel
theorem d11_fits_176 : decode (mm_cc M11_fits) 176 = .ok (.goto 40, 3) := by decide +kernel
theorem d11_fits_179 : decode (mm_cc M11_fits) 179 = .ok (.iload_n 2, 1) := by decide +kernel
theorem d11_fits_180 : decode (mm_cc M11_fits) 180 = .ok (.iconst 1, 1) := by decide +kernel
theorem d11_fits_181 : decode (mm_cc M11_fits) 181 = .ok (.if_icmp .ne 17, 3) := by decide +kernel
theorem d11_fits_184 : decode (mm_cc M11_fits) 184 = .ok (.iload 4, 2) := by decide +kernel
theorem d11_fits_186 : decode (mm_cc M11_fits) 186 = .ok (.ifCond .ne 7, 3) := by decide +kernel
theorem d11_fits_189 : decode (mm_cc M11_fits) 189 = .ok (.iconst (-1), 1) := by decide +kernel
theorem d11_fits_190 : decode (mm_cc M11_fits) 190 = .ok (.goto 26, 3) := by decide +kernel
theorem d11_fits_193 : decode (mm_cc M11_fits) 193 = .ok (.iload 6, 2) := by decide +kernel
theorem d11_fits_195 : decode (mm_cc M11_fits) 195 = .ok (.goto 21, 3) := by decide +kernel
theorem d11_fits_198 : decode (mm_cc M11_fits) 198 = .ok (.iload 5, 2) := by decide +kernel
theorem d11_fits_200 : decode (mm_cc M11_fits) 200 = .ok (.ifCond .ne 7, 3) := by decide +kernel
theorem d11_fits_203 : decode (mm_cc M11_fits) 203 = .ok (.iconst 0, 1) := by decide +kernel
theorem d11_fits_204 : decode (mm_cc M11_fits) 204 = .ok (.goto 12, 3) := by decide +kernel
theorem d11_fits_207 : decode (mm_cc M11_fits) 207 = .ok (.ldc_w 354, 3) := by decide +kernel
theorem d11_fits_210 : decode (mm_cc M11_fits) 210 = .ok (.iload 4, 2) := by decide +kernel
theorem d11_fits_212 : decode (mm_cc M11_fits) 212 = .ok (.imul, 1) := by decide +kernel
theorem d11_fits_213 : decode (mm_cc M11_fits) 213 = .ok (.iload 5, 2) := by decide +kernel
theorem d11_fits_215 : decode (mm_cc M11_fits) 215 = .ok (.idiv, 1) := by decide +kernel
theorem d11_fits_216 : decode (mm_cc M11_fits) 216 = .ok (.ireturn, 1) := by decide +kernel
theorem d11_goBack_0 : decode (mm_cc M11_goBack) 0 = .ok (.iload_n 1, 1) := by decide +kernel
theorem d11_goBack_1 : decode (mm_cc M11_goBack) 1 = .ok (.i2l, 1) := by decide +kernel
theorem d11_goBack_2 : decode (mm_cc M11_goBack) 2 = .ok (.lconst 0, 1) := by decide +kernel
theorem d11_goBack_3 : decode (mm_cc M11_goBack) 3 = .ok (.lconst 1, 1) := by decide +kernel
theorem d11_goBack_4 : decode (mm_cc M11_goBack) 4 = .ok (.invokestatic 136, 3) := by decide +kernel
theorem d11_goBack_7 : decode (mm_cc M11_goBack) 7 = .ok (.ifCond .ne 7, 3) := by decide +kernel
theorem d11_goBack_10 : decode (mm_cc M11_goBack) 10 = .ok (.ldc_w 271, 3) := by decide +kernel
theorem d11_goBack_13 : decode (mm_cc M11_goBack) 13 = .ok (.ireturn, 1) := by decide +kernel
theorem d11_goBack_14 : decode (mm_cc M11_goBack) 14 = .ok (.aload_n 0, 1) := by decide +kernel
theorem d11_goBack_15 : decode (mm_cc M11_goBack) 15 = .ok (.getfield 126, 3) := by decide +kernel
theorem d11_goBack_18 : decode (mm_cc M11_goBack) 18 = .ok (.iload_n 1, 1) := by decide +kernel
theorem d11_goBack_19 : decode (mm_cc M11_goBack) 19 = .ok (.baload, 1) := by decide +kernel
theorem d11_goBack_20 : decode (mm_cc M11_goBack) 20 = .ok (.ifCond .ne 6, 3) := by decide +kernel
theorem d11_goBack_23 : decode (mm_cc M11_goBack) 23 = .ok (.ldc 250, 2) := by decide +kernel
theorem d11_goBack_25 : decode (mm_cc M11_goBack) 25 = .ok (.ireturn, 1) := by decide +kernel
theorem d11_goBack_26 : decode (mm_cc M11_goBack) 26 = .ok (.aload_n 0, 1) := by decide +kernel
theorem d11_goBack_27 : decode (mm_cc M11_goBack) 27 = .ok (.iload_n 1, 1) := by decide +kernel
theorem d11_goBack_28 : decode (mm_cc M11_goBack) 28 = .ok (.invokevirtual 351, 3) := by decide +kernel
theorem d11_goBack_31 : decode (mm_cc M11_goBack) 31 = .ok (.iconst 1, 1) := by decide +kernel
theorem d11_goBack_32 : decode (mm_cc M11_goBack) 32 = .ok (.ireturn, 1) := by decide +kernel
theorem d11_isDrift_0 : decode (mm_cc M11_isDrift) 0 = .ok (.iload_n 0, 1) := by decide +kernel
theorem d11_isDrift_1 : decode (mm_cc M11_isDrift) 1 = .ok (.i2l, 1) := by decide +kernel
theorem d11_isDrift_2 : decode (mm_cc M11_isDrift) 2 = .ok (.lconst 1, 1) := by decide +kernel
theorem d11_isDrift_3 : decode (mm_cc M11_isDrift) 3 = .ok (.ldc2_w 336, 3) := by decide +kernel
theorem d11_isDrift_6 : decode (mm_cc M11_isDrift) 6 = .ok (.invokestatic 136, 3) := by decide +kernel
theorem d11_isDrift_9 : decode (mm_cc M11_isDrift) 9 = .ok (.ifCond .eq 19, 3) := by decide +kernel
theorem d11_isDrift_12 : decode (mm_cc M11_isDrift) 12 = .ok (.iload_n 1, 1) := by decide +kernel
theorem d11_isDrift_13 : decode (mm_cc M11_isDrift) 13 = .ok (.i2l, 1) := by decide +kernel
theorem d11_isDrift_14 : decode (mm_cc M11_isDrift) 14 = .ok (.lconst 0, 1) := by decide +kernel
theorem d11_isDrift_15 : decode (mm_cc M11_isDrift) 15 = .ok (.ldc2_w 338, 3) := by decide +kernel
theorem d11_isDrift_18 : decode (mm_cc M11_isDrift) 18 = .ok (.invokestatic 136, 3) := by decide +kernel
theorem d11_isDrift_21 : decode (mm_cc M11_isDrift) 21 = .ok (.ifCond .eq 7, 3) := by decide +kernel
theorem d11_isDrift_24 : decode (mm_cc M11_isDrift) 24 = .ok (.iconst 1, 1) := by decide +kernel
theorem d11_isDrift_25 : decode (mm_cc M11_isDrift) 25 = .ok (.goto 4, 3) := by decide +kernel
theorem d11_isDrift_28 : decode (mm_cc M11_isDrift) 28 = .ok (.iconst 0, 1) := by decide +kernel
theorem d11_isDrift_29 : decode (mm_cc M11_isDrift) 29 = .ok (.ireturn, 1) := by decide +kernel
theorem d11_isPerson_0 : decode (mm_cc M11_isPerson) 0 = .ok (.iload_n 1, 1) := by decide +kernel
theorem d11_isPerson_1 : decode (mm_cc M11_isPerson) 1 = .ok (.i2l, 1) := by decide +kernel
theorem d11_isPerson_2 : decode (mm_cc M11_isPerson) 2 = .ok (.lconst 0, 1) := by decide +kernel
theorem d11_isPerson_3 : decode (mm_cc M11_isPerson) 3 = .ok (.aload_n 0, 1) := by decide +kernel
theorem d11_isPerson_4 : decode (mm_cc M11_isPerson) 4 = .ok (.getfield 140, 3) := by decide +kernel
theorem d11_isPerson_7 : decode (mm_cc M11_isPerson) 7 = .ok (.iconst 1, 1) := by decide +kernel
theorem d11_isPerson_8 : decode (mm_cc M11_isPerson) 8 = .ok (.isub, 1) := by decide +kernel
theorem d11_isPerson_9 : decode (mm_cc M11_isPerson) 9 = .ok (.i2l, 1) := by decide +kernel
theorem d11_isPerson_10 : decode (mm_cc M11_isPerson) 10 = .ok (.invokestatic 136, 3) := by decide +kernel
theorem d11_isPerson_13 : decode (mm_cc M11_isPerson) 13 = .ok (.ireturn, 1) := by decide +kernel
theorem d11_isRing_0 : decode (mm_cc M11_isRing) 0 = .ok (.iload_n 1, 1) := by decide +kernel
theorem d11_isRing_1 : decode (mm_cc M11_isRing) 1 = .ok (.istore_n 3, 1) := by decide +kernel
theorem d11_isRing_2 : decode (mm_cc M11_isRing) 2 = .ok (.iconst 0, 1) := by decide +kernel
theorem d11_isRing_3 : decode (mm_cc M11_isRing) 3 = .ok (.istore 4, 2) := by decide +kernel
theorem d11_isRing_5 : decode (mm_cc M11_isRing) 5 = .ok (.iload_n 2, 1) := by decide +kernel
theorem d11_isRing_6 : decode (mm_cc M11_isRing) 6 = .ok (.iconst 1, 1) := by decide +kernel
theorem d11_isRing_7 : decode (mm_cc M11_isRing) 7 = .ok (.isub, 1) := by decide +kernel
theorem d11_isRing_8 : decode (mm_cc M11_isRing) 8 = .ok (.istore 5, 2) := by decide +kernel
theorem d11_isRing_10 : decode (mm_cc M11_isRing) 10 = .ok (.iload 5, 2) := by decide +kernel
theorem d11_isRing_12 : decode (mm_cc M11_isRing) 12 = .ok (.ifCond .lt 39, 3) := by decide +kernel
theorem d11_isRing_15 : decode (mm_cc M11_isRing) 15 = .ok (.aload_n 0, 1) := by decide +kernel
theorem d11_isRing_16 : decode (mm_cc M11_isRing) 16 = .ok (.getfield 102, 3) := by decide +kernel
theorem d11_isRing_19 : decode (mm_cc M11_isRing) 19 = .ok (.iload 5, 2) := by decide +kernel
theorem d11_isRing_21 : decode (mm_cc M11_isRing) 21 = .ok (.iload_n 3, 1) := by decide +kernel
theorem d11_isRing_22 : decode (mm_cc M11_isRing) 22 = .ok (.bipush 8, 2) := by decide +kernel
theorem d11_isRing_24 : decode (mm_cc M11_isRing) 24 = .ok (.irem, 1) := by decide +kernel
theorem d11_isRing_25 : decode (mm_cc M11_isRing) 25 = .ok (.iastore, 1) := by decide +kernel
theorem d11_isRing_26 : decode (mm_cc M11_isRing) 26 = .ok (.iload_n 3, 1) := by decide +kernel
theorem d11_isRing_27 : decode (mm_cc M11_isRing) 27 = .ok (.bipush 8, 2) := by decide +kernel
theorem d11_isRing_29 : decode (mm_cc M11_isRing) 29 = .ok (.idiv, 1) := by decide +kernel
theorem d11_isRing_30 : decode (mm_cc M11_isRing) 30 = .ok (.istore_n 3, 1) := by decide +kernel
theorem d11_isRing_31 : decode (mm_cc M11_isRing) 31 = .ok (.iload 4, 2) := by decide +kernel
theorem d11_isRing_33 : decode (mm_cc M11_isRing) 33 = .ok (.iconst 1, 1) := by decide +kernel
theorem d11_isRing_34 : decode (mm_cc M11_isRing) 34 = .ok (.aload_n 0, 1) := by decide +kernel
theorem d11_isRing_35 : decode (mm_cc M11_isRing) 35 = .ok (.getfield 102, 3) := by decide +kernel
theorem d11_isRing_38 : decode (mm_cc M11_isRing) 38 = .ok (.iload 5, 2) := by decide +kernel
theorem d11_isRing_40 : decode (mm_cc M11_isRing) 40 = .ok (.iaload, 1) := by decide +kernel
theorem d11_isRing_41 : decode (mm_cc M11_isRing) 41 = .ok (.ishl, 1) := by decide +kernel
theorem d11_isRing_42 : decode (mm_cc M11_isRing) 42 = .ok (.ior, 1) := by decide +kernel
theorem d11_isRing_43 : decode (mm_cc M11_isRing) 43 = .ok (.istore 4, 2) := by decide +kernel
theorem d11_isRing_45 : decode (mm_cc M11_isRing) 45 = .ok (.iinc 5 (-1), 3) := by decide +kernel
theorem d11_isRing_48 : decode (mm_cc M11_isRing) 48 = .ok (.goto (-38), 3) := by decide +kernel
theorem d11_isRing_51 : decode (mm_cc M11_isRing) 51 = .ok (.iload 4, 2) := by decide +kernel
theorem d11_isRing_53 : decode (mm_cc M11_isRing) 53 = .ok (.invokestatic 278, 3) := by decide +kernel
theorem d11_isRing_56 : decode (mm_cc M11_isRing) 56 = .ok (.iload_n 2, 1) := by decide +kernel
theorem d11_isRing_57 : decode (mm_cc M11_isRing) 57 = .ok (.if_icmp .ne 7, 3) := by decide +kernel
theorem d11_isRing_60 : decode (mm_cc M11_isRing) 60 = .ok (.iconst 1, 1) := by decide +kernel
theorem d11_isRing_61 : decode (mm_cc M11_isRing) 61 = .ok (.goto 4, 3) := by decide +kernel
theorem d11_isRing_64 : decode (mm_cc M11_isRing) 64 = .ok (.iconst 0, 1) := by decide +kernel
theorem d11_isRing_65 : decode (mm_cc M11_isRing) 65 = .ok (.istore 5, 2) := by decide +kernel
theorem d11_isRing_67 : decode (mm_cc M11_isRing) 67 = .ok (.iconst 0, 1) := by decide +kernel
theorem d11_isRing_68 : decode (mm_cc M11_isRing) 68 = .ok (.istore 6, 2) := by decide +kernel
theorem d11_isRing_70 : decode (mm_cc M11_isRing) 70 = .ok (.iload 6, 2) := by decide +kernel
theorem d11_isRing_72 : decode (mm_cc M11_isRing) 72 = .ok (.iload_n 2, 1) := by decide +kernel
theorem d11_isRing_73 : decode (mm_cc M11_isRing) 73 = .ok (.if_icmp .ge 51, 3) := by decide +kernel
theorem d11_isRing_76 : decode (mm_cc M11_isRing) 76 = .ok (.iload 5, 2) := by decide +kernel
theorem d11_isRing_78 : decode (mm_cc M11_isRing) 78 = .ok (.ifCond .eq 37, 3) := by decide +kernel
theorem d11_isRing_81 : decode (mm_cc M11_isRing) 81 = .ok (.aload_n 0, 1) := by decide +kernel
theorem d11_isRing_82 : decode (mm_cc M11_isRing) 82 = .ok (.getfield 102, 3) := by decide +kernel
theorem d11_isRing_85 : decode (mm_cc M11_isRing) 85 = .ok (.iload 6, 2) := by decide +kernel
theorem d11_isRing_87 : decode (mm_cc M11_isRing) 87 = .ok (.iaload, 1) := by decide +kernel
theorem d11_isRing_88 : decode (mm_cc M11_isRing) 88 = .ok (.aload_n 0, 1) := by decide +kernel
theorem d11_isRing_89 : decode (mm_cc M11_isRing) 89 = .ok (.getfield 140, 3) := by decide +kernel
theorem d11_isRing_92 : decode (mm_cc M11_isRing) 92 = .ok (.if_icmp .ge 23, 3) := by decide +kernel
theorem d11_isRing_95 : decode (mm_cc M11_isRing) 95 = .ok (.aload_n 0, 1) := by decide +kernel
theorem d11_isRing_96 : decode (mm_cc M11_isRing) 96 = .ok (.getfield 102, 3) := by decide +kernel
theorem d11_isRing_99 : decode (mm_cc M11_isRing) 99 = .ok (.iconst 0, 1) := by decide +kernel
theorem d11_isRing_100 : decode (mm_cc M11_isRing) 100 = .ok (.iaload, 1) := by decide +kernel
theorem d11_isRing_101 : decode (mm_cc M11_isRing) 101 = .ok (.aload_n 0, 1) := by decide +kernel
theorem d11_isRing_102 : decode (mm_cc M11_isRing) 102 = .ok (.getfield 102, 3) := by decide +kernel
theorem d11_isRing_105 : decode (mm_cc M11_isRing) 105 = .ok (.iload 6, 2) := by decide +kernel
theorem d11_isRing_107 : decode (mm_cc M11_isRing) 107 = .ok (.iaload, 1) := by decide +kernel
theorem d11_isRing_108 : decode (mm_cc M11_isRing) 108 = .ok (.if_icmp .gt 7, 3) := by decide +kernel
theorem d11_isRing_111 : decode (mm_cc M11_isRing) 111 = .ok (.iconst 1, 1) := by decide +kernel
theorem d11_isRing_112 : decode (mm_cc M11_isRing) 112 = .ok (.goto 4, 3) := by decide +kernel
theorem d11_isRing_115 : decode (mm_cc M11_isRing) 115 = .ok (.iconst 0, 1) := by decide +kernel
theorem d11_isRing_116 : decode (mm_cc M11_isRing) 116 = .ok (.istore 5, 2) := by decide +kernel
theorem d11_isRing_118 : decode (mm_cc M11_isRing) 118 = .ok (.iinc 6 1, 3) := by decide +kernel
theorem d11_isRing_121 : decode (mm_cc M11_isRing) 121 = .ok (.goto (-51), 3) := by decide +kernel
theorem d11_isRing_124 : decode (mm_cc M11_isRing) 124 = .ok (.iload 5, 2) := by decide +kernel
theorem d11_isRing_126 : decode (mm_cc M11_isRing) 126 = .ok (.ireturn, 1) := by decide +kernel
theorem d11_isTrade_0 : decode (mm_cc M11_isTrade) 0 = .ok (.iload_n 1, 1) := by decide +kernel
theorem d11_isTrade_1 : decode (mm_cc M11_isTrade) 1 = .ok (.i2l, 1) := by decide +kernel
theorem d11_isTrade_2 : decode (mm_cc M11_isTrade) 2 = .ok (.lconst 0, 1) := by decide +kernel
theorem d11_isTrade_3 : decode (mm_cc M11_isTrade) 3 = .ok (.aload_n 0, 1) := by decide +kernel
theorem d11_isTrade_4 : decode (mm_cc M11_isTrade) 4 = .ok (.getfield 133, 3) := by decide +kernel
theorem d11_isTrade_7 : decode (mm_cc M11_isTrade) 7 = .ok (.iconst 1, 1) := by decide +kernel
theorem d11_isTrade_8 : decode (mm_cc M11_isTrade) 8 = .ok (.isub, 1) := by decide +kernel
theorem d11_isTrade_9 : decode (mm_cc M11_isTrade) 9 = .ok (.i2l, 1) := by decide +kernel
theorem d11_isTrade_10 : decode (mm_cc M11_isTrade) 10 = .ok (.invokestatic 136, 3) := by decide +kernel
theorem d11_isTrade_13 : decode (mm_cc M11_isTrade) 13 = .ok (.ireturn, 1) := by decide +kernel
theorem d11_keep_0 : decode (mm_cc M11_keep) 0 = .ok (.iload_n 1, 1) := by decide +kernel
theorem d11_keep_1 : decode (mm_cc M11_keep) 1 = .ok (.i2l, 1) := by decide +kernel
theorem d11_keep_2 : decode (mm_cc M11_keep) 2 = .ok (.lconst 0, 1) := by decide +kernel
theorem d11_keep_3 : decode (mm_cc M11_keep) 3 = .ok (.lconst 1, 1) := by decide +kernel
theorem d11_keep_4 : decode (mm_cc M11_keep) 4 = .ok (.invokestatic 136, 3) := by decide +kernel
theorem d11_keep_7 : decode (mm_cc M11_keep) 7 = .ok (.ifCond .ne 7, 3) := by decide +kernel
theorem d11_keep_10 : decode (mm_cc M11_keep) 10 = .ok (.ldc_w 271, 3) := by decide +kernel
theorem d11_keep_13 : decode (mm_cc M11_keep) 13 = .ok (.ireturn, 1) := by decide +kernel
theorem d11_keep_14 : decode (mm_cc M11_keep) 14 = .ok (.aload_n 0, 1) := by decide +kernel
theorem d11_keep_15 : decode (mm_cc M11_keep) 15 = .ok (.iload_n 1, 1) := by decide +kernel
theorem d11_keep_16 : decode (mm_cc M11_keep) 16 = .ok (.invokevirtual 348, 3) := by decide +kernel
theorem d11_keep_19 : decode (mm_cc M11_keep) 19 = .ok (.aload_n 0, 1) := by decide +kernel
theorem d11_keep_20 : decode (mm_cc M11_keep) 20 = .ok (.getfield 126, 3) := by decide +kernel
theorem d11_keep_23 : decode (mm_cc M11_keep) 23 = .ok (.iload_n 1, 1) := by decide +kernel
theorem d11_keep_24 : decode (mm_cc M11_keep) 24 = .ok (.iconst 1, 1) := by decide +kernel
theorem d11_keep_25 : decode (mm_cc M11_keep) 25 = .ok (.bastore, 1) := by decide +kernel
theorem d11_keep_26 : decode (mm_cc M11_keep) 26 = .ok (.iconst 1, 1) := by decide +kernel
theorem d11_keep_27 : decode (mm_cc M11_keep) 27 = .ok (.ireturn, 1) := by decide +kernel
theorem d11_knownMany_0 : decode (mm_cc M11_knownMany) 0 = .ok (.iconst 0, 1) := by decide +kernel
theorem d11_knownMany_1 : decode (mm_cc M11_knownMany) 1 = .ok (.istore_n 2, 1) := by decide +kernel
theorem d11_knownMany_2 : decode (mm_cc M11_knownMany) 2 = .ok (.iconst 0, 1) := by decide +kernel
theorem d11_knownMany_3 : decode (mm_cc M11_knownMany) 3 = .ok (.istore_n 3, 1) := by decide +kernel
theorem d11_knownMany_4 : decode (mm_cc M11_knownMany) 4 = .ok (.iload_n 3, 1) := by decide +kernel
theorem d11_knownMany_5 : decode (mm_cc M11_knownMany) 5 = .ok (.aload_n 0, 1) := by decide +kernel
theorem d11_knownMany_6 : decode (mm_cc M11_knownMany) 6 = .ok (.getfield 133, 3) := by decide +kernel
theorem d11_knownMany_9 : decode (mm_cc M11_knownMany) 9 = .ok (.if_icmp .ge 26, 3) := by decide +kernel
theorem d11_knownMany_12 : decode (mm_cc M11_knownMany) 12 = .ok (.iload_n 2, 1) := by decide +kernel
theorem d11_knownMany_13 : decode (mm_cc M11_knownMany) 13 = .ok (.aload_n 0, 1) := by decide +kernel
theorem d11_knownMany_14 : decode (mm_cc M11_knownMany) 14 = .ok (.iload_n 1, 1) := by decide +kernel
theorem d11_knownMany_15 : decode (mm_cc M11_knownMany) 15 = .ok (.iload_n 3, 1) := by decide +kernel
theorem d11_knownMany_16 : decode (mm_cc M11_knownMany) 16 = .ok (.invokevirtual 143, 3) := by decide +kernel
theorem d11_knownMany_19 : decode (mm_cc M11_knownMany) 19 = .ok (.ifCond .eq 7, 3) := by decide +kernel
theorem d11_knownMany_22 : decode (mm_cc M11_knownMany) 22 = .ok (.iconst 1, 1) := by decide +kernel
theorem d11_knownMany_23 : decode (mm_cc M11_knownMany) 23 = .ok (.goto 4, 3) := by decide +kernel
theorem d11_knownMany_26 : decode (mm_cc M11_knownMany) 26 = .ok (.iconst 0, 1) := by decide +kernel
theorem d11_knownMany_27 : decode (mm_cc M11_knownMany) 27 = .ok (.iadd, 1) := by decide +kernel
theorem d11_knownMany_28 : decode (mm_cc M11_knownMany) 28 = .ok (.istore_n 2, 1) := by decide +kernel
theorem d11_knownMany_29 : decode (mm_cc M11_knownMany) 29 = .ok (.iinc 3 1, 3) := by decide +kernel
theorem d11_knownMany_32 : decode (mm_cc M11_knownMany) 32 = .ok (.goto (-28), 3) := by decide +kernel
theorem d11_knownMany_35 : decode (mm_cc M11_knownMany) 35 = .ok (.iload_n 2, 1) := by decide +kernel
theorem d11_knownMany_36 : decode (mm_cc M11_knownMany) 36 = .ok (.ireturn, 1) := by decide +kernel
theorem d11_knownSet_0 : decode (mm_cc M11_knownSet) 0 = .ok (.iconst 0, 1) := by decide +kernel
theorem d11_knownSet_1 : decode (mm_cc M11_knownSet) 1 = .ok (.istore_n 2, 1) := by decide +kernel
theorem d11_knownSet_2 : decode (mm_cc M11_knownSet) 2 = .ok (.iconst 0, 1) := by decide +kernel
theorem d11_knownSet_3 : decode (mm_cc M11_knownSet) 3 = .ok (.istore_n 3, 1) := by decide +kernel
theorem d11_knownSet_4 : decode (mm_cc M11_knownSet) 4 = .ok (.iload_n 3, 1) := by decide +kernel
theorem d11_knownSet_5 : decode (mm_cc M11_knownSet) 5 = .ok (.aload_n 0, 1) := by decide +kernel
theorem d11_knownSet_6 : decode (mm_cc M11_knownSet) 6 = .ok (.getfield 133, 3) := by decide +kernel
theorem d11_knownSet_9 : decode (mm_cc M11_knownSet) 9 = .ok (.if_icmp .ge 28, 3) := by decide +kernel
theorem d11_knownSet_12 : decode (mm_cc M11_knownSet) 12 = .ok (.iload_n 2, 1) := by decide +kernel
theorem d11_knownSet_13 : decode (mm_cc M11_knownSet) 13 = .ok (.aload_n 0, 1) := by decide +kernel
theorem d11_knownSet_14 : decode (mm_cc M11_knownSet) 14 = .ok (.iload_n 1, 1) := by decide +kernel
theorem d11_knownSet_15 : decode (mm_cc M11_knownSet) 15 = .ok (.iload_n 3, 1) := by decide +kernel
theorem d11_knownSet_16 : decode (mm_cc M11_knownSet) 16 = .ok (.invokevirtual 143, 3) := by decide +kernel
theorem d11_knownSet_19 : decode (mm_cc M11_knownSet) 19 = .ok (.ifCond .eq 9, 3) := by decide +kernel
theorem d11_knownSet_22 : decode (mm_cc M11_knownSet) 22 = .ok (.iconst 1, 1) := by decide +kernel
theorem d11_knownSet_23 : decode (mm_cc M11_knownSet) 23 = .ok (.iload_n 3, 1) := by decide +kernel
theorem d11_knownSet_24 : decode (mm_cc M11_knownSet) 24 = .ok (.ishl, 1) := by decide +kernel
theorem d11_knownSet_25 : decode (mm_cc M11_knownSet) 25 = .ok (.goto 4, 3) := by decide +kernel
theorem d11_knownSet_28 : decode (mm_cc M11_knownSet) 28 = .ok (.iconst 0, 1) := by decide +kernel
theorem d11_knownSet_29 : decode (mm_cc M11_knownSet) 29 = .ok (.ior, 1) := by decide +kernel
theorem d11_knownSet_30 : decode (mm_cc M11_knownSet) 30 = .ok (.istore_n 2, 1) := by decide +kernel
theorem d11_knownSet_31 : decode (mm_cc M11_knownSet) 31 = .ok (.iinc 3 1, 3) := by decide +kernel
theorem d11_knownSet_34 : decode (mm_cc M11_knownSet) 34 = .ok (.goto (-30), 3) := by decide +kernel
theorem d11_knownSet_37 : decode (mm_cc M11_knownSet) 37 = .ok (.iload_n 2, 1) := by decide +kernel
theorem d11_knownSet_38 : decode (mm_cc M11_knownSet) 38 = .ok (.ireturn, 1) := by decide +kernel
theorem d11_leastLiked_0 : decode (mm_cc M11_leastLiked) 0 = .ok (.iconst (-1), 1) := by decide +kernel
theorem d11_leastLiked_1 : decode (mm_cc M11_leastLiked) 1 = .ok (.istore_n 2, 1) := by decide +kernel
theorem d11_leastLiked_2 : decode (mm_cc M11_leastLiked) 2 = .ok (.iconst 0, 1) := by decide +kernel
theorem d11_leastLiked_3 : decode (mm_cc M11_leastLiked) 3 = .ok (.istore_n 3, 1) := by decide +kernel
theorem d11_leastLiked_4 : decode (mm_cc M11_leastLiked) 4 = .ok (.iload_n 3, 1) := by decide +kernel
theorem d11_leastLiked_5 : decode (mm_cc M11_leastLiked) 5 = .ok (.aload_n 0, 1) := by decide +kernel
theorem d11_leastLiked_6 : decode (mm_cc M11_leastLiked) 6 = .ok (.getfield 133, 3) := by decide +kernel
theorem d11_leastLiked_9 : decode (mm_cc M11_leastLiked) 9 = .ok (.if_icmp .ge 53, 3) := by decide +kernel
theorem d11_leastLiked_12 : decode (mm_cc M11_leastLiked) 12 = .ok (.aload_n 0, 1) := by decide +kernel
theorem d11_leastLiked_13 : decode (mm_cc M11_leastLiked) 13 = .ok (.iload_n 1, 1) := by decide +kernel
theorem d11_leastLiked_14 : decode (mm_cc M11_leastLiked) 14 = .ok (.iload_n 3, 1) := by decide +kernel
theorem d11_leastLiked_15 : decode (mm_cc M11_leastLiked) 15 = .ok (.invokevirtual 143, 3) := by decide +kernel
theorem d11_leastLiked_18 : decode (mm_cc M11_leastLiked) 18 = .ok (.ifCond .eq 36, 3) := by decide +kernel
theorem d11_leastLiked_21 : decode (mm_cc M11_leastLiked) 21 = .ok (.iload_n 2, 1) := by decide +kernel
theorem d11_leastLiked_22 : decode (mm_cc M11_leastLiked) 22 = .ok (.ifCond .lt 28, 3) := by decide +kernel
theorem d11_leastLiked_25 : decode (mm_cc M11_leastLiked) 25 = .ok (.aload_n 0, 1) := by decide +kernel
theorem d11_leastLiked_26 : decode (mm_cc M11_leastLiked) 26 = .ok (.getfield 19, 3) := by decide +kernel
theorem d11_leastLiked_29 : decode (mm_cc M11_leastLiked) 29 = .ok (.bipush 6, 2) := by decide +kernel
theorem d11_leastLiked_31 : decode (mm_cc M11_leastLiked) 31 = .ok (.iload_n 1, 1) := by decide +kernel
theorem d11_leastLiked_32 : decode (mm_cc M11_leastLiked) 32 = .ok (.imul, 1) := by decide +kernel
theorem d11_leastLiked_33 : decode (mm_cc M11_leastLiked) 33 = .ok (.iload_n 3, 1) := by decide +kernel
theorem d11_leastLiked_34 : decode (mm_cc M11_leastLiked) 34 = .ok (.iadd, 1) := by decide +kernel
theorem d11_leastLiked_35 : decode (mm_cc M11_leastLiked) 35 = .ok (.iaload, 1) := by decide +kernel
theorem d11_leastLiked_36 : decode (mm_cc M11_leastLiked) 36 = .ok (.aload_n 0, 1) := by decide +kernel
theorem d11_leastLiked_37 : decode (mm_cc M11_leastLiked) 37 = .ok (.getfield 19, 3) := by decide +kernel
theorem d11_leastLiked_40 : decode (mm_cc M11_leastLiked) 40 = .ok (.bipush 6, 2) := by decide +kernel
theorem d11_leastLiked_42 : decode (mm_cc M11_leastLiked) 42 = .ok (.iload_n 1, 1) := by decide +kernel
theorem d11_leastLiked_43 : decode (mm_cc M11_leastLiked) 43 = .ok (.imul, 1) := by decide +kernel
theorem d11_leastLiked_44 : decode (mm_cc M11_leastLiked) 44 = .ok (.iload_n 2, 1) := by decide +kernel
theorem d11_leastLiked_45 : decode (mm_cc M11_leastLiked) 45 = .ok (.iadd, 1) := by decide +kernel
theorem d11_leastLiked_46 : decode (mm_cc M11_leastLiked) 46 = .ok (.iaload, 1) := by decide +kernel
theorem d11_leastLiked_47 : decode (mm_cc M11_leastLiked) 47 = .ok (.if_icmp .ge 7, 3) := by decide +kernel
theorem d11_leastLiked_50 : decode (mm_cc M11_leastLiked) 50 = .ok (.iload_n 3, 1) := by decide +kernel
theorem d11_leastLiked_51 : decode (mm_cc M11_leastLiked) 51 = .ok (.goto 4, 3) := by decide +kernel
theorem d11_leastLiked_54 : decode (mm_cc M11_leastLiked) 54 = .ok (.iload_n 2, 1) := by decide +kernel
theorem d11_leastLiked_55 : decode (mm_cc M11_leastLiked) 55 = .ok (.istore_n 2, 1) := by decide +kernel
theorem d11_leastLiked_56 : decode (mm_cc M11_leastLiked) 56 = .ok (.iinc 3 1, 3) := by decide +kernel
theorem d11_leastLiked_59 : decode (mm_cc M11_leastLiked) 59 = .ok (.goto (-55), 3) := by decide +kernel
theorem d11_leastLiked_62 : decode (mm_cc M11_leastLiked) 62 = .ok (.iload_n 2, 1) := by decide +kernel
theorem d11_leastLiked_63 : decode (mm_cc M11_leastLiked) 63 = .ok (.ireturn, 1) := by decide +kernel
theorem d11_makers_0 : decode (mm_cc M11_makers) 0 = .ok (.iload_n 1, 1) := by decide +kernel
theorem d11_makers_1 : decode (mm_cc M11_makers) 1 = .ok (.i2l, 1) := by decide +kernel
theorem d11_makers_2 : decode (mm_cc M11_makers) 2 = .ok (.lconst 0, 1) := by decide +kernel
theorem d11_makers_3 : decode (mm_cc M11_makers) 3 = .ok (.aload_n 0, 1) := by decide +kernel
theorem d11_makers_4 : decode (mm_cc M11_makers) 4 = .ok (.getfield 244, 3) := by decide +kernel
theorem d11_makers_7 : decode (mm_cc M11_makers) 7 = .ok (.iconst 1, 1) := by decide +kernel
theorem d11_makers_8 : decode (mm_cc M11_makers) 8 = .ok (.isub, 1) := by decide +kernel
theorem d11_makers_9 : decode (mm_cc M11_makers) 9 = .ok (.i2l, 1) := by decide +kernel
theorem d11_makers_10 : decode (mm_cc M11_makers) 10 = .ok (.invokestatic 136, 3) := by decide +kernel
theorem d11_makers_13 : decode (mm_cc M11_makers) 13 = .ok (.ifCond .eq 22, 3) := by decide +kernel
theorem d11_makers_16 : decode (mm_cc M11_makers) 16 = .ok (.aload_n 0, 1) := by decide +kernel
theorem d11_makers_17 : decode (mm_cc M11_makers) 17 = .ok (.aload_n 0, 1) := by decide +kernel
theorem d11_makers_18 : decode (mm_cc M11_makers) 18 = .ok (.getfield 108, 3) := by decide +kernel
theorem d11_makers_21 : decode (mm_cc M11_makers) 21 = .ok (.iload_n 1, 1) := by decide +kernel
theorem d11_makers_22 : decode (mm_cc M11_makers) 22 = .ok (.iaload, 1) := by decide +kernel
theorem d11_makers_23 : decode (mm_cc M11_makers) 23 = .ok (.aload_n 0, 1) := by decide +kernel
theorem d11_makers_24 : decode (mm_cc M11_makers) 24 = .ok (.getfield 111, 3) := by decide +kernel
theorem d11_makers_27 : decode (mm_cc M11_makers) 27 = .ok (.iload_n 1, 1) := by decide +kernel
theorem d11_makers_28 : decode (mm_cc M11_makers) 28 = .ok (.iaload, 1) := by decide +kernel
theorem d11_makers_29 : decode (mm_cc M11_makers) 29 = .ok (.invokevirtual 258, 3) := by decide +kernel
theorem d11_makers_32 : decode (mm_cc M11_makers) 32 = .ok (.goto 6, 3) := by decide +kernel
theorem d11_makers_35 : decode (mm_cc M11_makers) 35 = .ok (.ldc_w 271, 3) := by decide +kernel
theorem d11_makers_38 : decode (mm_cc M11_makers) 38 = .ok (.ireturn, 1) := by decide +kernel
theorem d11_mayLearn_0 : decode (mm_cc M11_mayLearn) 0 = .ok (.aload_n 0, 1) := by decide +kernel
theorem d11_mayLearn_1 : decode (mm_cc M11_mayLearn) 1 = .ok (.getfield 7, 3) := by decide +kernel
theorem d11_mayLearn_4 : decode (mm_cc M11_mayLearn) 4 = .ok (.iconst 4, 1) := by decide +kernel
theorem d11_mayLearn_5 : decode (mm_cc M11_mayLearn) 5 = .ok (.iload_n 2, 1) := by decide +kernel
theorem d11_mayLearn_6 : decode (mm_cc M11_mayLearn) 6 = .ok (.imul, 1) := by decide +kernel
theorem d11_mayLearn_7 : decode (mm_cc M11_mayLearn) 7 = .ok (.iconst 3, 1) := by decide +kernel
theorem d11_mayLearn_8 : decode (mm_cc M11_mayLearn) 8 = .ok (.iadd, 1) := by decide +kernel
theorem d11_mayLearn_9 : decode (mm_cc M11_mayLearn) 9 = .ok (.iaload, 1) := by decide +kernel
theorem d11_mayLearn_10 : decode (mm_cc M11_mayLearn) 10 = .ok (.istore_n 3, 1) := by decide +kernel
theorem d11_mayLearn_11 : decode (mm_cc M11_mayLearn) 11 = .ok (.iload_n 3, 1) := by decide +kernel
theorem d11_mayLearn_12 : decode (mm_cc M11_mayLearn) 12 = .ok (.ifCond .lt 12, 3) := by decide +kernel
theorem d11_mayLearn_15 : decode (mm_cc M11_mayLearn) 15 = .ok (.aload_n 0, 1) := by decide +kernel
theorem d11_mayLearn_16 : decode (mm_cc M11_mayLearn) 16 = .ok (.iload_n 1, 1) := by decide +kernel
theorem d11_mayLearn_17 : decode (mm_cc M11_mayLearn) 17 = .ok (.iload_n 3, 1) := by decide +kernel
theorem d11_mayLearn_18 : decode (mm_cc M11_mayLearn) 18 = .ok (.invokevirtual 143, 3) := by decide +kernel
theorem d11_mayLearn_21 : decode (mm_cc M11_mayLearn) 21 = .ok (.ifCond .eq 7, 3) := by decide +kernel
theorem d11_mayLearn_24 : decode (mm_cc M11_mayLearn) 24 = .ok (.iconst 1, 1) := by decide +kernel
theorem d11_mayLearn_25 : decode (mm_cc M11_mayLearn) 25 = .ok (.goto 4, 3) := by decide +kernel
theorem d11_mayLearn_28 : decode (mm_cc M11_mayLearn) 28 = .ok (.iconst 0, 1) := by decide +kernel
theorem d11_mayLearn_29 : decode (mm_cc M11_mayLearn) 29 = .ok (.istore 4, 2) := by decide +kernel
theorem d11_mayLearn_31 : decode (mm_cc M11_mayLearn) 31 = .ok (.aload_n 0, 1) := by decide +kernel
theorem d11_mayLearn_32 : decode (mm_cc M11_mayLearn) 32 = .ok (.getfield 41, 3) := by decide +kernel
theorem d11_mayLearn_35 : decode (mm_cc M11_mayLearn) 35 = .ok (.iload_n 1, 1) := by decide +kernel
theorem d11_mayLearn_36 : decode (mm_cc M11_mayLearn) 36 = .ok (.baload, 1) := by decide +kernel
theorem d11_mayLearn_37 : decode (mm_cc M11_mayLearn) 37 = .ok (.ifCond .eq 42, 3) := by decide +kernel
theorem d11_mayLearn_40 : decode (mm_cc M11_mayLearn) 40 = .ok (.aload_n 0, 1) := by decide +kernel
theorem d11_mayLearn_41 : decode (mm_cc M11_mayLearn) 41 = .ok (.getfield 54, 3) := by decide +kernel
theorem d11_mayLearn_44 : decode (mm_cc M11_mayLearn) 44 = .ok (.iload_n 1, 1) := by decide +kernel
theorem d11_mayLearn_45 : decode (mm_cc M11_mayLearn) 45 = .ok (.iaload, 1) := by decide +kernel
theorem d11_mayLearn_46 : decode (mm_cc M11_mayLearn) 46 = .ok (.ifCond .ge 33, 3) := by decide +kernel
theorem d11_mayLearn_49 : decode (mm_cc M11_mayLearn) 49 = .ok (.aload_n 0, 1) := by decide +kernel
theorem d11_mayLearn_50 : decode (mm_cc M11_mayLearn) 50 = .ok (.iload_n 1, 1) := by decide +kernel
theorem d11_mayLearn_51 : decode (mm_cc M11_mayLearn) 51 = .ok (.iload_n 2, 1) := by decide +kernel
theorem d11_mayLearn_52 : decode (mm_cc M11_mayLearn) 52 = .ok (.invokevirtual 143, 3) := by decide +kernel
theorem d11_mayLearn_55 : decode (mm_cc M11_mayLearn) 55 = .ok (.ifCond .ne 24, 3) := by decide +kernel
theorem d11_mayLearn_58 : decode (mm_cc M11_mayLearn) 58 = .ok (.aload_n 0, 1) := by decide +kernel
theorem d11_mayLearn_59 : decode (mm_cc M11_mayLearn) 59 = .ok (.getfield 7, 3) := by decide +kernel
theorem d11_mayLearn_62 : decode (mm_cc M11_mayLearn) 62 = .ok (.iconst 4, 1) := by decide +kernel
theorem d11_mayLearn_63 : decode (mm_cc M11_mayLearn) 63 = .ok (.iload_n 2, 1) := by decide +kernel
theorem d11_mayLearn_64 : decode (mm_cc M11_mayLearn) 64 = .ok (.imul, 1) := by decide +kernel
theorem d11_mayLearn_65 : decode (mm_cc M11_mayLearn) 65 = .ok (.iaload, 1) := by decide +kernel
theorem d11_mayLearn_66 : decode (mm_cc M11_mayLearn) 66 = .ok (.iconst 3, 1) := by decide +kernel
theorem d11_mayLearn_67 : decode (mm_cc M11_mayLearn) 67 = .ok (.if_icmp .eq 12, 3) := by decide +kernel
theorem d11_mayLearn_70 : decode (mm_cc M11_mayLearn) 70 = .ok (.iload 4, 2) := by decide +kernel
theorem d11_mayLearn_72 : decode (mm_cc M11_mayLearn) 72 = .ok (.ifCond .eq 7, 3) := by decide +kernel
theorem d11_mayLearn_75 : decode (mm_cc M11_mayLearn) 75 = .ok (.iconst 1, 1) := by decide +kernel
theorem d11_mayLearn_76 : decode (mm_cc M11_mayLearn) 76 = .ok (.goto 4, 3) := by decide +kernel
theorem d11_mayLearn_79 : decode (mm_cc M11_mayLearn) 79 = .ok (.iconst 0, 1) := by decide +kernel
theorem d11_mayLearn_80 : decode (mm_cc M11_mayLearn) 80 = .ok (.ireturn, 1) := by decide +kernel
theorem d11_readWord_0 : decode (mm_cc M11_readWord) 0 = .ok (.aload_n 0, 1) := by decide +kernel
theorem d11_readWord_1 : decode (mm_cc M11_readWord) 1 = .ok (.invokevirtual 166, 3) := by decide +kernel
theorem d11_readWord_4 : decode (mm_cc M11_readWord) 4 = .ok (.istore_n 1, 1) := by decide +kernel
theorem d11_readWord_5 : decode (mm_cc M11_readWord) 5 = .ok (.aload_n 0, 1) := by decide +kernel
theorem d11_readWord_6 : decode (mm_cc M11_readWord) 6 = .ok (.lconst 0, 1) := by decide +kernel
theorem d11_readWord_7 : decode (mm_cc M11_readWord) 7 = .ok (.putfield 169, 3) := by decide +kernel
theorem d11_readWord_10 : decode (mm_cc M11_readWord) 10 = .ok (.aload_n 0, 1) := by decide +kernel
theorem d11_readWord_11 : decode (mm_cc M11_readWord) 11 = .ok (.aload_n 0, 1) := by decide +kernel
theorem d11_readWord_12 : decode (mm_cc M11_readWord) 12 = .ok (.getfield 163, 3) := by decide +kernel
theorem d11_readWord_15 : decode (mm_cc M11_readWord) 15 = .ok (.putfield 173, 3) := by decide +kernel
theorem d11_readWord_18 : decode (mm_cc M11_readWord) 18 = .ok (.aload_n 0, 1) := by decide +kernel
theorem d11_readWord_19 : decode (mm_cc M11_readWord) 19 = .ok (.getfield 173, 3) := by decide +kernel
theorem d11_readWord_22 : decode (mm_cc M11_readWord) 22 = .ok (.aload_n 0, 1) := by decide +kernel
theorem d11_readWord_23 : decode (mm_cc M11_readWord) 23 = .ok (.getfield 157, 3) := by decide +kernel
theorem d11_readWord_26 : decode (mm_cc M11_readWord) 26 = .ok (.if_icmp .ge 82, 3) := by decide +kernel
theorem d11_readWord_29 : decode (mm_cc M11_readWord) 29 = .ok (.aload_n 0, 1) := by decide +kernel
theorem d11_readWord_30 : decode (mm_cc M11_readWord) 30 = .ok (.getfield 75, 3) := by decide +kernel
theorem d11_readWord_33 : decode (mm_cc M11_readWord) 33 = .ok (.aload_n 0, 1) := by decide +kernel
theorem d11_readWord_34 : decode (mm_cc M11_readWord) 34 = .ok (.getfield 173, 3) := by decide +kernel
theorem d11_readWord_37 : decode (mm_cc M11_readWord) 37 = .ok (.iaload, 1) := by decide +kernel
theorem d11_readWord_38 : decode (mm_cc M11_readWord) 38 = .ok (.i2l, 1) := by decide +kernel
theorem d11_readWord_39 : decode (mm_cc M11_readWord) 39 = .ok (.ldc2_w 176, 3) := by decide +kernel
theorem d11_readWord_42 : decode (mm_cc M11_readWord) 42 = .ok (.ldc2_w 178, 3) := by decide +kernel
theorem d11_readWord_45 : decode (mm_cc M11_readWord) 45 = .ok (.invokestatic 136, 3) := by decide +kernel
theorem d11_readWord_48 : decode (mm_cc M11_readWord) 48 = .ok (.ifCond .eq 60, 3) := by decide +kernel
theorem d11_readWord_51 : decode (mm_cc M11_readWord) 51 = .ok (.aload_n 0, 1) := by decide +kernel
theorem d11_readWord_52 : decode (mm_cc M11_readWord) 52 = .ok (.aload_n 0, 1) := by decide +kernel
theorem d11_readWord_53 : decode (mm_cc M11_readWord) 53 = .ok (.getfield 169, 3) := by decide +kernel
theorem d11_readWord_56 : decode (mm_cc M11_readWord) 56 = .ok (.ldc2_w 180, 3) := by decide +kernel
theorem d11_readWord_59 : decode (mm_cc M11_readWord) 59 = .ok (.lcmp, 1) := by decide +kernel
theorem d11_readWord_60 : decode (mm_cc M11_readWord) 60 = .ok (.ifCond .le 9, 3) := by decide +kernel
theorem d11_readWord_63 : decode (mm_cc M11_readWord) 63 = .ok (.ldc2_w 182, 3) := by decide +kernel
theorem d11_readWord_66 : decode (mm_cc M11_readWord) 66 = .ok (.goto 26, 3) := by decide +kernel
theorem d11_readWord_69 : decode (mm_cc M11_readWord) 69 = .ok (.ldc2_w 184, 3) := by decide +kernel
theorem d11_readWord_72 : decode (mm_cc M11_readWord) 72 = .ok (.aload_n 0, 1) := by decide +kernel
theorem d11_readWord_73 : decode (mm_cc M11_readWord) 73 = .ok (.getfield 169, 3) := by decide +kernel
theorem d11_readWord_76 : decode (mm_cc M11_readWord) 76 = .ok (.lmul, 1) := by decide +kernel
theorem d11_readWord_77 : decode (mm_cc M11_readWord) 77 = .ok (.aload_n 0, 1) := by decide +kernel
theorem d11_readWord_78 : decode (mm_cc M11_readWord) 78 = .ok (.getfield 75, 3) := by decide +kernel
theorem d11_readWord_81 : decode (mm_cc M11_readWord) 81 = .ok (.aload_n 0, 1) := by decide +kernel
theorem d11_readWord_82 : decode (mm_cc M11_readWord) 82 = .ok (.getfield 173, 3) := by decide +kernel
theorem d11_readWord_85 : decode (mm_cc M11_readWord) 85 = .ok (.iaload, 1) := by decide +kernel
theorem d11_readWord_86 : decode (mm_cc M11_readWord) 86 = .ok (.i2l, 1) := by decide +kernel
theorem d11_readWord_87 : decode (mm_cc M11_readWord) 87 = .ok (.ladd, 1) := by decide +kernel
theorem d11_readWord_88 : decode (mm_cc M11_readWord) 88 = .ok (.ldc2_w 186, 3) := by decide +kernel
theorem d11_readWord_91 : decode (mm_cc M11_readWord) 91 = .ok (.lsub, 1) := by decide +kernel
theorem d11_readWord_92 : decode (mm_cc M11_readWord) 92 = .ok (.putfield 169, 3) := by decide +kernel
theorem d11_readWord_95 : decode (mm_cc M11_readWord) 95 = .ok (.aload_n 0, 1) := by decide +kernel
theorem d11_readWord_96 : decode (mm_cc M11_readWord) 96 = .ok (.dup, 1) := by decide +kernel
theorem d11_readWord_97 : decode (mm_cc M11_readWord) 97 = .ok (.getfield 173, 3) := by decide +kernel
theorem d11_readWord_100 : decode (mm_cc M11_readWord) 100 = .ok (.iconst 1, 1) := by decide +kernel
theorem d11_readWord_101 : decode (mm_cc M11_readWord) 101 = .ok (.iadd, 1) := by decide +kernel
theorem d11_readWord_102 : decode (mm_cc M11_readWord) 102 = .ok (.putfield 173, 3) := by decide +kernel
theorem d11_readWord_105 : decode (mm_cc M11_readWord) 105 = .ok (.goto (-87), 3) := by decide +kernel
theorem d11_readWord_108 : decode (mm_cc M11_readWord) 108 = .ok (.return_, 1) := by decide +kernel
theorem d11_takeNumber_0 : decode (mm_cc M11_takeNumber) 0 = .ok (.aload_n 0, 1) := by decide +kernel
theorem d11_takeNumber_1 : decode (mm_cc M11_takeNumber) 1 = .ok (.invokevirtual 166, 3) := by decide +kernel
theorem d11_takeNumber_4 : decode (mm_cc M11_takeNumber) 4 = .ok (.istore_n 3, 1) := by decide +kernel
theorem d11_takeNumber_5 : decode (mm_cc M11_takeNumber) 5 = .ok (.iload_n 3, 1) := by decide +kernel
theorem d11_takeNumber_6 : decode (mm_cc M11_takeNumber) 6 = .ok (.i2l, 1) := by decide +kernel
theorem d11_takeNumber_7 : decode (mm_cc M11_takeNumber) 7 = .ok (.ldc2_w 188, 3) := by decide +kernel
theorem d11_takeNumber_10 : decode (mm_cc M11_takeNumber) 10 = .ok (.ldc2_w 190, 3) := by decide +kernel
theorem d11_takeNumber_13 : decode (mm_cc M11_takeNumber) 13 = .ok (.invokestatic 136, 3) := by decide +kernel
theorem d11_takeNumber_16 : decode (mm_cc M11_takeNumber) 16 = .ok (.ifCond .ne 13, 3) := by decide +kernel
theorem d11_takeNumber_19 : decode (mm_cc M11_takeNumber) 19 = .ok (.aload_n 0, 1) := by decide +kernel
theorem d11_takeNumber_20 : decode (mm_cc M11_takeNumber) 20 = .ok (.iconst 1, 1) := by decide +kernel
theorem d11_takeNumber_21 : decode (mm_cc M11_takeNumber) 21 = .ok (.aload_n 0, 1) := by decide +kernel
theorem d11_takeNumber_22 : decode (mm_cc M11_takeNumber) 22 = .ok (.getfield 163, 3) := by decide +kernel
theorem d11_takeNumber_25 : decode (mm_cc M11_takeNumber) 25 = .ok (.invokevirtual 192, 3) := by decide +kernel
theorem d11_takeNumber_28 : decode (mm_cc M11_takeNumber) 28 = .ok (.ireturn, 1) := by decide +kernel
theorem d11_takeNumber_29 : decode (mm_cc M11_takeNumber) 29 = .ok (.aload_n 0, 1) := by decide +kernel
theorem d11_takeNumber_30 : decode (mm_cc M11_takeNumber) 30 = .ok (.aload_n 0, 1) := by decide +kernel
theorem d11_takeNumber_31 : decode (mm_cc M11_takeNumber) 31 = .ok (.getfield 163, 3) := by decide +kernel
theorem d11_takeNumber_34 : decode (mm_cc M11_takeNumber) 34 = .ok (.putfield 196, 3) := by decide +kernel
theorem d11_takeNumber_37 : decode (mm_cc M11_takeNumber) 37 = .ok (.aload_n 0, 1) := by decide +kernel
theorem d11_takeNumber_38 : decode (mm_cc M11_takeNumber) 38 = .ok (.iconst 0, 1) := by decide +kernel
theorem d11_takeNumber_39 : decode (mm_cc M11_takeNumber) 39 = .ok (.putfield 199, 3) := by decide +kernel
theorem d11_takeNumber_42 : decode (mm_cc M11_takeNumber) 42 = .ok (.aload_n 0, 1) := by decide +kernel
theorem d11_takeNumber_43 : decode (mm_cc M11_takeNumber) 43 = .ok (.getfield 163, 3) := by decide +kernel
theorem d11_takeNumber_46 : decode (mm_cc M11_takeNumber) 46 = .ok (.aload_n 0, 1) := by decide +kernel
theorem d11_takeNumber_47 : decode (mm_cc M11_takeNumber) 47 = .ok (.getfield 157, 3) := by decide +kernel
theorem d11_takeNumber_50 : decode (mm_cc M11_takeNumber) 50 = .ok (.if_icmp .ge 79, 3) := by decide +kernel
theorem d11_takeNumber_53 : decode (mm_cc M11_takeNumber) 53 = .ok (.aload_n 0, 1) := by decide +kernel
theorem d11_takeNumber_54 : decode (mm_cc M11_takeNumber) 54 = .ok (.getfield 75, 3) := by decide +kernel
theorem d11_takeNumber_57 : decode (mm_cc M11_takeNumber) 57 = .ok (.aload_n 0, 1) := by decide +kernel
theorem d11_takeNumber_58 : decode (mm_cc M11_takeNumber) 58 = .ok (.getfield 163, 3) := by decide +kernel
theorem d11_takeNumber_61 : decode (mm_cc M11_takeNumber) 61 = .ok (.iaload, 1) := by decide +kernel
theorem d11_takeNumber_62 : decode (mm_cc M11_takeNumber) 62 = .ok (.i2l, 1) := by decide +kernel
theorem d11_takeNumber_63 : decode (mm_cc M11_takeNumber) 63 = .ok (.ldc2_w 188, 3) := by decide +kernel
theorem d11_takeNumber_66 : decode (mm_cc M11_takeNumber) 66 = .ok (.ldc2_w 190, 3) := by decide +kernel
theorem d11_takeNumber_69 : decode (mm_cc M11_takeNumber) 69 = .ok (.invokestatic 136, 3) := by decide +kernel
theorem d11_takeNumber_72 : decode (mm_cc M11_takeNumber) 72 = .ok (.ifCond .eq 57, 3) := by decide +kernel
theorem d11_takeNumber_75 : decode (mm_cc M11_takeNumber) 75 = .ok (.aload_n 0, 1) := by decide +kernel
theorem d11_takeNumber_76 : decode (mm_cc M11_takeNumber) 76 = .ok (.aload_n 0, 1) := by decide +kernel
theorem d11_takeNumber_77 : decode (mm_cc M11_takeNumber) 77 = .ok (.getfield 199, 3) := by decide +kernel
theorem d11_takeNumber_80 : decode (mm_cc M11_takeNumber) 80 = .ok (.sipush 10000, 3) := by decide +kernel
theorem d11_takeNumber_83 : decode (mm_cc M11_takeNumber) 83 = .ok (.if_icmp .le 10, 3) := by decide +kernel
theorem d11_takeNumber_86 : decode (mm_cc M11_takeNumber) 86 = .ok (.aload_n 0, 1) := by decide +kernel
theorem d11_takeNumber_87 : decode (mm_cc M11_takeNumber) 87 = .ok (.getfield 199, 3) := by decide +kernel
theorem d11_takeNumber_90 : decode (mm_cc M11_takeNumber) 90 = .ok (.goto 23, 3) := by decide +kernel
theorem d11_takeNumber_93 : decode (mm_cc M11_takeNumber) 93 = .ok (.bipush 10, 2) := by decide +kernel
theorem d11_takeNumber_95 : decode (mm_cc M11_takeNumber) 95 = .ok (.aload_n 0, 1) := by decide +kernel
theorem d11_takeNumber_96 : decode (mm_cc M11_takeNumber) 96 = .ok (.getfield 199, 3) := by decide +kernel
theorem d11_takeNumber_99 : decode (mm_cc M11_takeNumber) 99 = .ok (.imul, 1) := by decide +kernel
theorem d11_takeNumber_100 : decode (mm_cc M11_takeNumber) 100 = .ok (.aload_n 0, 1) := by decide +kernel
theorem d11_takeNumber_101 : decode (mm_cc M11_takeNumber) 101 = .ok (.getfield 75, 3) := by decide +kernel
theorem d11_takeNumber_104 : decode (mm_cc M11_takeNumber) 104 = .ok (.aload_n 0, 1) := by decide +kernel
theorem d11_takeNumber_105 : decode (mm_cc M11_takeNumber) 105 = .ok (.getfield 163, 3) := by decide +kernel
theorem d11_takeNumber_108 : decode (mm_cc M11_takeNumber) 108 = .ok (.iaload, 1) := by decide +kernel
theorem d11_takeNumber_109 : decode (mm_cc M11_takeNumber) 109 = .ok (.iadd, 1) := by decide +kernel
theorem d11_takeNumber_110 : decode (mm_cc M11_takeNumber) 110 = .ok (.bipush 48, 2) := by decide +kernel
theorem d11_takeNumber_112 : decode (mm_cc M11_takeNumber) 112 = .ok (.isub, 1) := by decide +kernel
theorem d11_takeNumber_113 : decode (mm_cc M11_takeNumber) 113 = .ok (.putfield 199, 3) := by decide +kernel
theorem d11_takeNumber_116 : decode (mm_cc M11_takeNumber) 116 = .ok (.aload_n 0, 1) := by decide +kernel
theorem d11_takeNumber_117 : decode (mm_cc M11_takeNumber) 117 = .ok (.dup, 1) := by decide +kernel
theorem d11_takeNumber_118 : decode (mm_cc M11_takeNumber) 118 = .ok (.getfield 163, 3) := by decide +kernel
theorem d11_takeNumber_121 : decode (mm_cc M11_takeNumber) 121 = .ok (.iconst 1, 1) := by decide +kernel
theorem d11_takeNumber_122 : decode (mm_cc M11_takeNumber) 122 = .ok (.iadd, 1) := by decide +kernel
theorem d11_takeNumber_123 : decode (mm_cc M11_takeNumber) 123 = .ok (.putfield 163, 3) := by decide +kernel
theorem d11_takeNumber_126 : decode (mm_cc M11_takeNumber) 126 = .ok (.goto (-84), 3) := by decide +kernel
theorem d11_takeNumber_129 : decode (mm_cc M11_takeNumber) 129 = .ok (.aload_n 0, 1) := by decide +kernel
theorem d11_takeNumber_130 : decode (mm_cc M11_takeNumber) 130 = .ok (.getfield 163, 3) := by decide +kernel
theorem d11_takeNumber_133 : decode (mm_cc M11_takeNumber) 133 = .ok (.aload_n 0, 1) := by decide +kernel
theorem d11_takeNumber_134 : decode (mm_cc M11_takeNumber) 134 = .ok (.getfield 196, 3) := by decide +kernel
theorem d11_takeNumber_137 : decode (mm_cc M11_takeNumber) 137 = .ok (.isub, 1) := by decide +kernel
theorem d11_takeNumber_138 : decode (mm_cc M11_takeNumber) 138 = .ok (.iconst 3, 1) := by decide +kernel
theorem d11_takeNumber_139 : decode (mm_cc M11_takeNumber) 139 = .ok (.if_icmp .gt 18, 3) := by decide +kernel
theorem d11_takeNumber_142 : decode (mm_cc M11_takeNumber) 142 = .ok (.aload_n 0, 1) := by decide +kernel
theorem d11_takeNumber_143 : decode (mm_cc M11_takeNumber) 143 = .ok (.getfield 199, 3) := by decide +kernel
theorem d11_takeNumber_146 : decode (mm_cc M11_takeNumber) 146 = .ok (.i2l, 1) := by decide +kernel
theorem d11_takeNumber_147 : decode (mm_cc M11_takeNumber) 147 = .ok (.iload_n 1, 1) := by decide +kernel
theorem d11_takeNumber_148 : decode (mm_cc M11_takeNumber) 148 = .ok (.i2l, 1) := by decide +kernel
theorem d11_takeNumber_149 : decode (mm_cc M11_takeNumber) 149 = .ok (.iload_n 2, 1) := by decide +kernel
theorem d11_takeNumber_150 : decode (mm_cc M11_takeNumber) 150 = .ok (.i2l, 1) := by decide +kernel
theorem d11_takeNumber_151 : decode (mm_cc M11_takeNumber) 151 = .ok (.invokestatic 136, 3) := by decide +kernel
theorem d11_takeNumber_154 : decode (mm_cc M11_takeNumber) 154 = .ok (.ifCond .ne 15, 3) := by decide +kernel
theorem d11_takeNumber_157 : decode (mm_cc M11_takeNumber) 157 = .ok (.aload_n 0, 1) := by decide +kernel
theorem d11_takeNumber_158 : decode (mm_cc M11_takeNumber) 158 = .ok (.iconst 2, 1) := by decide +kernel
theorem d11_takeNumber_159 : decode (mm_cc M11_takeNumber) 159 = .ok (.aload_n 0, 1) := by decide +kernel
theorem d11_takeNumber_160 : decode (mm_cc M11_takeNumber) 160 = .ok (.getfield 196, 3) := by decide +kernel
theorem d11_takeNumber_163 : decode (mm_cc M11_takeNumber) 163 = .ok (.invokevirtual 192, 3) := by decide +kernel
theorem d11_takeNumber_166 : decode (mm_cc M11_takeNumber) 166 = .ok (.goto 4, 3) := by decide +kernel
theorem d11_takeNumber_169 : decode (mm_cc M11_takeNumber) 169 = .ok (.iconst 0, 1) := by decide +kernel
theorem d11_takeNumber_170 : decode (mm_cc M11_takeNumber) 170 = .ok (.ireturn, 1) := by decide +kernel
theorem d11_takeStop_0 : decode (mm_cc M11_takeStop) 0 = .ok (.aload_n 0, 1) := by decide +kernel
theorem d11_takeStop_1 : decode (mm_cc M11_takeStop) 1 = .ok (.invokevirtual 166, 3) := by decide +kernel
theorem d11_takeStop_4 : decode (mm_cc M11_takeStop) 4 = .ok (.bipush 59, 2) := by decide +kernel
theorem d11_takeStop_6 : decode (mm_cc M11_takeStop) 6 = .ok (.if_icmp .eq 13, 3) := by decide +kernel
theorem d11_takeStop_9 : decode (mm_cc M11_takeStop) 9 = .ok (.aload_n 0, 1) := by decide +kernel
theorem d11_takeStop_10 : decode (mm_cc M11_takeStop) 10 = .ok (.iconst 1, 1) := by decide +kernel
theorem d11_takeStop_11 : decode (mm_cc M11_takeStop) 11 = .ok (.aload_n 0, 1) := by decide +kernel
theorem d11_takeStop_12 : decode (mm_cc M11_takeStop) 12 = .ok (.getfield 163, 3) := by decide +kernel
theorem d11_takeStop_15 : decode (mm_cc M11_takeStop) 15 = .ok (.invokevirtual 192, 3) := by decide +kernel
theorem d11_takeStop_18 : decode (mm_cc M11_takeStop) 18 = .ok (.ireturn, 1) := by decide +kernel
theorem d11_takeStop_19 : decode (mm_cc M11_takeStop) 19 = .ok (.aload_n 0, 1) := by decide +kernel
theorem d11_takeStop_20 : decode (mm_cc M11_takeStop) 20 = .ok (.dup, 1) := by decide +kernel
theorem d11_takeStop_21 : decode (mm_cc M11_takeStop) 21 = .ok (.getfield 163, 3) := by decide +kernel
theorem d11_takeStop_24 : decode (mm_cc M11_takeStop) 24 = .ok (.iconst 1, 1) := by decide +kernel
theorem d11_takeStop_25 : decode (mm_cc M11_takeStop) 25 = .ok (.iadd, 1) := by decide +kernel
theorem d11_takeStop_26 : decode (mm_cc M11_takeStop) 26 = .ok (.putfield 163, 3) := by decide +kernel
theorem d11_takeStop_29 : decode (mm_cc M11_takeStop) 29 = .ok (.iconst 0, 1) := by decide +kernel
theorem d11_takeStop_30 : decode (mm_cc M11_takeStop) 30 = .ok (.ireturn, 1) := by decide +kernel
theorem d1_copyFrom_0 : decode (mm_cc M1_copyFrom) 0 = .ok (.aload_n 0, 1) := by decide +kernel
theorem d1_copyFrom_1 : decode (mm_cc M1_copyFrom) 1 = .ok (.getfield 14, 3) := by decide +kernel
theorem d1_copyFrom_4 : decode (mm_cc M1_copyFrom) 4 = .ok (.aload_n 1, 1) := by decide +kernel
theorem d1_copyFrom_5 : decode (mm_cc M1_copyFrom) 5 = .ok (.getfield 14, 3) := by decide +kernel
theorem d1_copyFrom_8 : decode (mm_cc M1_copyFrom) 8 = .ok (.invokevirtual 67, 3) := by decide +kernel
theorem d1_copyFrom_11 : decode (mm_cc M1_copyFrom) 11 = .ok (.aload_n 0, 1) := by decide +kernel
theorem d1_copyFrom_12 : decode (mm_cc M1_copyFrom) 12 = .ok (.getfield 20, 3) := by decide +kernel
theorem d1_copyFrom_15 : decode (mm_cc M1_copyFrom) 15 = .ok (.aload_n 1, 1) := by decide +kernel
theorem d1_copyFrom_16 : decode (mm_cc M1_copyFrom) 16 = .ok (.getfield 20, 3) := by decide +kernel
theorem d1_copyFrom_19 : decode (mm_cc M1_copyFrom) 19 = .ok (.invokevirtual 67, 3) := by decide +kernel
theorem d1_copyFrom_22 : decode (mm_cc M1_copyFrom) 22 = .ok (.aload_n 0, 1) := by decide +kernel
theorem d1_copyFrom_23 : decode (mm_cc M1_copyFrom) 23 = .ok (.getfield 23, 3) := by decide +kernel
theorem d1_copyFrom_26 : decode (mm_cc M1_copyFrom) 26 = .ok (.aload_n 1, 1) := by decide +kernel
theorem d1_copyFrom_27 : decode (mm_cc M1_copyFrom) 27 = .ok (.getfield 23, 3) := by decide +kernel
theorem d1_copyFrom_30 : decode (mm_cc M1_copyFrom) 30 = .ok (.invokevirtual 67, 3) := by decide +kernel
theorem d1_copyFrom_33 : decode (mm_cc M1_copyFrom) 33 = .ok (.aload_n 0, 1) := by decide +kernel
theorem d1_copyFrom_34 : decode (mm_cc M1_copyFrom) 34 = .ok (.getfield 26, 3) := by decide +kernel
theorem d1_copyFrom_37 : decode (mm_cc M1_copyFrom) 37 = .ok (.aload_n 1, 1) := by decide +kernel
theorem d1_copyFrom_38 : decode (mm_cc M1_copyFrom) 38 = .ok (.getfield 26, 3) := by decide +kernel
theorem d1_copyFrom_41 : decode (mm_cc M1_copyFrom) 41 = .ok (.invokevirtual 67, 3) := by decide +kernel
theorem d1_copyFrom_44 : decode (mm_cc M1_copyFrom) 44 = .ok (.aload_n 0, 1) := by decide +kernel
theorem d1_copyFrom_45 : decode (mm_cc M1_copyFrom) 45 = .ok (.getfield 29, 3) := by decide +kernel
theorem d1_copyFrom_48 : decode (mm_cc M1_copyFrom) 48 = .ok (.aload_n 1, 1) := by decide +kernel
theorem d1_copyFrom_49 : decode (mm_cc M1_copyFrom) 49 = .ok (.getfield 29, 3) := by decide +kernel
theorem d1_copyFrom_52 : decode (mm_cc M1_copyFrom) 52 = .ok (.invokevirtual 67, 3) := by decide +kernel
theorem d1_copyFrom_55 : decode (mm_cc M1_copyFrom) 55 = .ok (.aload_n 0, 1) := by decide +kernel
theorem d1_copyFrom_56 : decode (mm_cc M1_copyFrom) 56 = .ok (.getfield 32, 3) := by decide +kernel
theorem d1_copyFrom_59 : decode (mm_cc M1_copyFrom) 59 = .ok (.aload_n 1, 1) := by decide +kernel
theorem d1_copyFrom_60 : decode (mm_cc M1_copyFrom) 60 = .ok (.getfield 32, 3) := by decide +kernel
theorem d1_copyFrom_63 : decode (mm_cc M1_copyFrom) 63 = .ok (.invokevirtual 67, 3) := by decide +kernel
theorem d1_copyFrom_66 : decode (mm_cc M1_copyFrom) 66 = .ok (.aload_n 0, 1) := by decide +kernel
theorem d1_copyFrom_67 : decode (mm_cc M1_copyFrom) 67 = .ok (.getfield 35, 3) := by decide +kernel
theorem d1_copyFrom_70 : decode (mm_cc M1_copyFrom) 70 = .ok (.aload_n 1, 1) := by decide +kernel
theorem d1_copyFrom_71 : decode (mm_cc M1_copyFrom) 71 = .ok (.getfield 35, 3) := by decide +kernel
theorem d1_copyFrom_74 : decode (mm_cc M1_copyFrom) 74 = .ok (.invokevirtual 67, 3) := by decide +kernel
theorem d1_copyFrom_77 : decode (mm_cc M1_copyFrom) 77 = .ok (.aload_n 0, 1) := by decide +kernel
theorem d1_copyFrom_78 : decode (mm_cc M1_copyFrom) 78 = .ok (.getfield 38, 3) := by decide +kernel
theorem d1_copyFrom_81 : decode (mm_cc M1_copyFrom) 81 = .ok (.aload_n 1, 1) := by decide +kernel
theorem d1_copyFrom_82 : decode (mm_cc M1_copyFrom) 82 = .ok (.getfield 38, 3) := by decide +kernel
theorem d1_copyFrom_85 : decode (mm_cc M1_copyFrom) 85 = .ok (.invokevirtual 67, 3) := by decide +kernel
theorem d1_copyFrom_88 : decode (mm_cc M1_copyFrom) 88 = .ok (.aload_n 0, 1) := by decide +kernel
theorem d1_copyFrom_89 : decode (mm_cc M1_copyFrom) 89 = .ok (.aload_n 1, 1) := by decide +kernel
theorem d1_copyFrom_90 : decode (mm_cc M1_copyFrom) 90 = .ok (.getfield 44, 3) := by decide +kernel
theorem d1_copyFrom_93 : decode (mm_cc M1_copyFrom) 93 = .ok (.putfield 44, 3) := by decide +kernel
theorem d1_copyFrom_96 : decode (mm_cc M1_copyFrom) 96 = .ok (.aload_n 0, 1) := by decide +kernel
theorem d1_copyFrom_97 : decode (mm_cc M1_copyFrom) 97 = .ok (.aload_n 1, 1) := by decide +kernel
theorem d1_copyFrom_98 : decode (mm_cc M1_copyFrom) 98 = .ok (.getfield 48, 3) := by decide +kernel
theorem d1_copyFrom_101 : decode (mm_cc M1_copyFrom) 101 = .ok (.putfield 48, 3) := by decide +kernel
theorem d1_copyFrom_104 : decode (mm_cc M1_copyFrom) 104 = .ok (.aload_n 0, 1) := by decide +kernel
theorem d1_copyFrom_105 : decode (mm_cc M1_copyFrom) 105 = .ok (.aload_n 1, 1) := by decide +kernel
theorem d1_copyFrom_106 : decode (mm_cc M1_copyFrom) 106 = .ok (.getfield 51, 3) := by decide +kernel
theorem d1_copyFrom_109 : decode (mm_cc M1_copyFrom) 109 = .ok (.putfield 51, 3) := by decide +kernel
theorem d1_copyFrom_112 : decode (mm_cc M1_copyFrom) 112 = .ok (.aload_n 0, 1) := by decide +kernel
theorem d1_copyFrom_113 : decode (mm_cc M1_copyFrom) 113 = .ok (.aload_n 1, 1) := by decide +kernel
theorem d1_copyFrom_114 : decode (mm_cc M1_copyFrom) 114 = .ok (.getfield 54, 3) := by decide +kernel
theorem d1_copyFrom_117 : decode (mm_cc M1_copyFrom) 117 = .ok (.putfield 54, 3) := by decide +kernel
theorem d1_copyFrom_120 : decode (mm_cc M1_copyFrom) 120 = .ok (.aload_n 0, 1) := by decide +kernel
theorem d1_copyFrom_121 : decode (mm_cc M1_copyFrom) 121 = .ok (.aload_n 1, 1) := by decide +kernel
theorem d1_copyFrom_122 : decode (mm_cc M1_copyFrom) 122 = .ok (.getfield 57, 3) := by decide +kernel
theorem d1_copyFrom_125 : decode (mm_cc M1_copyFrom) 125 = .ok (.putfield 57, 3) := by decide +kernel
theorem d1_copyFrom_128 : decode (mm_cc M1_copyFrom) 128 = .ok (.return_, 1) := by decide +kernel
theorem d1_empty_0 : decode (mm_cc M1_empty) 0 = .ok (.iconst 0, 1) := by decide +kernel
theorem d1_empty_1 : decode (mm_cc M1_empty) 1 = .ok (.istore_n 2, 1) := by decide +kernel
theorem d1_empty_2 : decode (mm_cc M1_empty) 2 = .ok (.iload_n 2, 1) := by decide +kernel
theorem d1_empty_3 : decode (mm_cc M1_empty) 3 = .ok (.bipush 6, 2) := by decide +kernel
theorem d1_empty_5 : decode (mm_cc M1_empty) 5 = .ok (.if_icmp .ge 35, 3) := by decide +kernel
theorem d1_empty_8 : decode (mm_cc M1_empty) 8 = .ok (.aload_n 0, 1) := by decide +kernel
theorem d1_empty_9 : decode (mm_cc M1_empty) 9 = .ok (.getfield 20, 3) := by decide +kernel
theorem d1_empty_12 : decode (mm_cc M1_empty) 12 = .ok (.iload_n 1, 1) := by decide +kernel
theorem d1_empty_13 : decode (mm_cc M1_empty) 13 = .ok (.iload_n 2, 1) := by decide +kernel
theorem d1_empty_14 : decode (mm_cc M1_empty) 14 = .ok (.invokestatic 71, 3) := by decide +kernel
theorem d1_empty_17 : decode (mm_cc M1_empty) 17 = .ok (.iconst 0, 1) := by decide +kernel
theorem d1_empty_18 : decode (mm_cc M1_empty) 18 = .ok (.invokevirtual 63, 3) := by decide +kernel
theorem d1_empty_21 : decode (mm_cc M1_empty) 21 = .ok (.aload_n 0, 1) := by decide +kernel
theorem d1_empty_22 : decode (mm_cc M1_empty) 22 = .ok (.getfield 23, 3) := by decide +kernel
theorem d1_empty_25 : decode (mm_cc M1_empty) 25 = .ok (.iload_n 1, 1) := by decide +kernel
theorem d1_empty_26 : decode (mm_cc M1_empty) 26 = .ok (.iload_n 2, 1) := by decide +kernel
theorem d1_empty_27 : decode (mm_cc M1_empty) 27 = .ok (.invokestatic 71, 3) := by decide +kernel
theorem d1_empty_30 : decode (mm_cc M1_empty) 30 = .ok (.iconst (-1), 1) := by decide +kernel
theorem d1_empty_31 : decode (mm_cc M1_empty) 31 = .ok (.invokevirtual 63, 3) := by decide +kernel
theorem d1_empty_34 : decode (mm_cc M1_empty) 34 = .ok (.iinc 2 1, 3) := by decide +kernel
theorem d1_empty_37 : decode (mm_cc M1_empty) 37 = .ok (.goto (-35), 3) := by decide +kernel
theorem d1_empty_40 : decode (mm_cc M1_empty) 40 = .ok (.aload_n 0, 1) := by decide +kernel
theorem d1_empty_41 : decode (mm_cc M1_empty) 41 = .ok (.getfield 26, 3) := by decide +kernel
theorem d1_empty_44 : decode (mm_cc M1_empty) 44 = .ok (.iload_n 1, 1) := by decide +kernel
theorem d1_empty_45 : decode (mm_cc M1_empty) 45 = .ok (.iconst (-1), 1) := by decide +kernel
theorem d1_empty_46 : decode (mm_cc M1_empty) 46 = .ok (.invokevirtual 63, 3) := by decide +kernel
theorem d1_empty_49 : decode (mm_cc M1_empty) 49 = .ok (.aload_n 0, 1) := by decide +kernel
theorem d1_empty_50 : decode (mm_cc M1_empty) 50 = .ok (.getfield 29, 3) := by decide +kernel
theorem d1_empty_53 : decode (mm_cc M1_empty) 53 = .ok (.iload_n 1, 1) := by decide +kernel
theorem d1_empty_54 : decode (mm_cc M1_empty) 54 = .ok (.iconst (-1), 1) := by decide +kernel
theorem d1_empty_55 : decode (mm_cc M1_empty) 55 = .ok (.invokevirtual 63, 3) := by decide +kernel
theorem d1_empty_58 : decode (mm_cc M1_empty) 58 = .ok (.aload_n 0, 1) := by decide +kernel
theorem d1_empty_59 : decode (mm_cc M1_empty) 59 = .ok (.getfield 32, 3) := by decide +kernel
theorem d1_empty_62 : decode (mm_cc M1_empty) 62 = .ok (.iload_n 1, 1) := by decide +kernel
theorem d1_empty_63 : decode (mm_cc M1_empty) 63 = .ok (.iconst 0, 1) := by decide +kernel
theorem d1_empty_64 : decode (mm_cc M1_empty) 64 = .ok (.invokevirtual 63, 3) := by decide +kernel
theorem d1_empty_67 : decode (mm_cc M1_empty) 67 = .ok (.aload_n 0, 1) := by decide +kernel
theorem d1_empty_68 : decode (mm_cc M1_empty) 68 = .ok (.getfield 35, 3) := by decide +kernel
theorem d1_empty_71 : decode (mm_cc M1_empty) 71 = .ok (.iload_n 1, 1) := by decide +kernel
theorem d1_empty_72 : decode (mm_cc M1_empty) 72 = .ok (.iconst (-1), 1) := by decide +kernel
theorem d1_empty_73 : decode (mm_cc M1_empty) 73 = .ok (.invokevirtual 63, 3) := by decide +kernel
theorem d1_empty_76 : decode (mm_cc M1_empty) 76 = .ok (.return_, 1) := by decide +kernel
theorem d1_knownBy_0 : decode (mm_cc M1_knownBy) 0 = .ok (.iconst 0, 1) := by decide +kernel
theorem d1_knownBy_1 : decode (mm_cc M1_knownBy) 1 = .ok (.istore_n 2, 1) := by decide +kernel
theorem d1_knownBy_2 : decode (mm_cc M1_knownBy) 2 = .ok (.iconst 0, 1) := by decide +kernel
theorem d1_knownBy_3 : decode (mm_cc M1_knownBy) 3 = .ok (.istore_n 3, 1) := by decide +kernel
theorem d1_knownBy_4 : decode (mm_cc M1_knownBy) 4 = .ok (.iload_n 3, 1) := by decide +kernel
theorem d1_knownBy_5 : decode (mm_cc M1_knownBy) 5 = .ok (.bipush 6, 2) := by decide +kernel
theorem d1_knownBy_7 : decode (mm_cc M1_knownBy) 7 = .ok (.if_icmp .ge 30, 3) := by decide +kernel
theorem d1_knownBy_10 : decode (mm_cc M1_knownBy) 10 = .ok (.aload_n 0, 1) := by decide +kernel
theorem d1_knownBy_11 : decode (mm_cc M1_knownBy) 11 = .ok (.getfield 20, 3) := by decide +kernel
theorem d1_knownBy_14 : decode (mm_cc M1_knownBy) 14 = .ok (.iload_n 1, 1) := by decide +kernel
theorem d1_knownBy_15 : decode (mm_cc M1_knownBy) 15 = .ok (.iload_n 3, 1) := by decide +kernel
theorem d1_knownBy_16 : decode (mm_cc M1_knownBy) 16 = .ok (.invokestatic 71, 3) := by decide +kernel
theorem d1_knownBy_19 : decode (mm_cc M1_knownBy) 19 = .ok (.invokevirtual 79, 3) := by decide +kernel
theorem d1_knownBy_22 : decode (mm_cc M1_knownBy) 22 = .ok (.ifCond .le 9, 3) := by decide +kernel
theorem d1_knownBy_25 : decode (mm_cc M1_knownBy) 25 = .ok (.iload_n 2, 1) := by decide +kernel
theorem d1_knownBy_26 : decode (mm_cc M1_knownBy) 26 = .ok (.iconst 1, 1) := by decide +kernel
theorem d1_knownBy_27 : decode (mm_cc M1_knownBy) 27 = .ok (.iload_n 3, 1) := by decide +kernel
theorem d1_knownBy_28 : decode (mm_cc M1_knownBy) 28 = .ok (.ishl, 1) := by decide +kernel
theorem d1_knownBy_29 : decode (mm_cc M1_knownBy) 29 = .ok (.ior, 1) := by decide +kernel
theorem d1_knownBy_30 : decode (mm_cc M1_knownBy) 30 = .ok (.istore_n 2, 1) := by decide +kernel
theorem d1_knownBy_31 : decode (mm_cc M1_knownBy) 31 = .ok (.iinc 3 1, 3) := by decide +kernel
theorem d1_knownBy_34 : decode (mm_cc M1_knownBy) 34 = .ok (.goto (-30), 3) := by decide +kernel
theorem d1_knownBy_37 : decode (mm_cc M1_knownBy) 37 = .ok (.iload_n 2, 1) := by decide +kernel
theorem d1_knownBy_38 : decode (mm_cc M1_knownBy) 38 = .ok (.ireturn, 1) := by decide +kernel
theorem d1_knows_0 : decode (mm_cc M1_knows) 0 = .ok (.aload_n 0, 1) := by decide +kernel
theorem d1_knows_1 : decode (mm_cc M1_knows) 1 = .ok (.getfield 20, 3) := by decide +kernel
theorem d1_knows_4 : decode (mm_cc M1_knows) 4 = .ok (.iload_n 1, 1) := by decide +kernel
theorem d1_knows_5 : decode (mm_cc M1_knows) 5 = .ok (.iload_n 2, 1) := by decide +kernel
theorem d1_knows_6 : decode (mm_cc M1_knows) 6 = .ok (.invokestatic 71, 3) := by decide +kernel
theorem d1_knows_9 : decode (mm_cc M1_knows) 9 = .ok (.invokevirtual 79, 3) := by decide +kernel
theorem d1_knows_12 : decode (mm_cc M1_knows) 12 = .ok (.ifCond .le 7, 3) := by decide +kernel
theorem d1_knows_15 : decode (mm_cc M1_knows) 15 = .ok (.iconst 1, 1) := by decide +kernel
theorem d1_knows_16 : decode (mm_cc M1_knows) 16 = .ok (.goto 4, 3) := by decide +kernel
theorem d1_knows_19 : decode (mm_cc M1_knows) 19 = .ok (.iconst 0, 1) := by decide +kernel
theorem d1_knows_20 : decode (mm_cc M1_knows) 20 = .ok (.ireturn, 1) := by decide +kernel
theorem d1_lives_0 : decode (mm_cc M1_lives) 0 = .ok (.aload_n 0, 1) := by decide +kernel
theorem d1_lives_1 : decode (mm_cc M1_lives) 1 = .ok (.getfield 44, 3) := by decide +kernel
theorem d1_lives_4 : decode (mm_cc M1_lives) 4 = .ok (.iload_n 1, 1) := by decide +kernel
theorem d1_lives_5 : decode (mm_cc M1_lives) 5 = .ok (.invokestatic 75, 3) := by decide +kernel
theorem d1_lives_8 : decode (mm_cc M1_lives) 8 = .ok (.ireturn, 1) := by decide +kernel
theorem d1_setSkill_0 : decode (mm_cc M1_setSkill) 0 = .ok (.aload_n 0, 1) := by decide +kernel
theorem d1_setSkill_1 : decode (mm_cc M1_setSkill) 1 = .ok (.getfield 20, 3) := by decide +kernel
theorem d1_setSkill_4 : decode (mm_cc M1_setSkill) 4 = .ok (.iload_n 1, 1) := by decide +kernel
theorem d1_setSkill_5 : decode (mm_cc M1_setSkill) 5 = .ok (.iload_n 2, 1) := by decide +kernel
theorem d1_setSkill_6 : decode (mm_cc M1_setSkill) 6 = .ok (.invokestatic 71, 3) := by decide +kernel
theorem d1_setSkill_9 : decode (mm_cc M1_setSkill) 9 = .ok (.iload_n 3, 1) := by decide +kernel
theorem d1_setSkill_10 : decode (mm_cc M1_setSkill) 10 = .ok (.invokevirtual 63, 3) := by decide +kernel
theorem d1_setSkill_13 : decode (mm_cc M1_setSkill) 13 = .ok (.return_, 1) := by decide +kernel
theorem d1_skillOf_0 : decode (mm_cc M1_skillOf) 0 = .ok (.aload_n 0, 1) := by decide +kernel
theorem d1_skillOf_1 : decode (mm_cc M1_skillOf) 1 = .ok (.getfield 20, 3) := by decide +kernel
theorem d1_skillOf_4 : decode (mm_cc M1_skillOf) 4 = .ok (.iload_n 1, 1) := by decide +kernel
theorem d1_skillOf_5 : decode (mm_cc M1_skillOf) 5 = .ok (.iload_n 2, 1) := by decide +kernel
theorem d1_skillOf_6 : decode (mm_cc M1_skillOf) 6 = .ok (.invokestatic 71, 3) := by decide +kernel
theorem d1_skillOf_9 : decode (mm_cc M1_skillOf) 9 = .ok (.invokevirtual 79, 3) := by decide +kernel
theorem d1_skillOf_12 : decode (mm_cc M1_skillOf) 12 = .ok (.ireturn, 1) := by decide +kernel
theorem d2_isBackDue_0 : decode (mm_cc M2_isBackDue) 0 = .ok (.aload_n 0, 1) := by decide +kernel
theorem d2_isBackDue_1 : decode (mm_cc M2_isBackDue) 1 = .ok (.getfield 19, 3) := by decide +kernel
theorem d2_isBackDue_4 : decode (mm_cc M2_isBackDue) 4 = .ok (.getfield 186, 3) := by decide +kernel
theorem d2_isBackDue_7 : decode (mm_cc M2_isBackDue) 7 = .ok (.iload_n 1, 1) := by decide +kernel
theorem d2_isBackDue_8 : decode (mm_cc M2_isBackDue) 8 = .ok (.iload_n 2, 1) := by decide +kernel
theorem d2_isBackDue_9 : decode (mm_cc M2_isBackDue) 9 = .ok (.invokestatic 189, 3) := by decide +kernel
theorem d2_isBackDue_12 : decode (mm_cc M2_isBackDue) 12 = .ok (.invokevirtual 96, 3) := by decide +kernel
theorem d2_isBackDue_15 : decode (mm_cc M2_isBackDue) 15 = .ok (.istore_n 3, 1) := by decide +kernel
theorem d2_isBackDue_16 : decode (mm_cc M2_isBackDue) 16 = .ok (.aload_n 0, 1) := by decide +kernel
theorem d2_isBackDue_17 : decode (mm_cc M2_isBackDue) 17 = .ok (.getfield 9, 3) := by decide +kernel
theorem d2_isBackDue_20 : decode (mm_cc M2_isBackDue) 20 = .ok (.getfield 180, 3) := by decide +kernel
theorem d2_isBackDue_23 : decode (mm_cc M2_isBackDue) 23 = .ok (.iload_n 2, 1) := by decide +kernel
theorem d2_isBackDue_24 : decode (mm_cc M2_isBackDue) 24 = .ok (.invokevirtual 96, 3) := by decide +kernel
theorem d2_isBackDue_27 : decode (mm_cc M2_isBackDue) 27 = .ok (.iconst 1, 1) := by decide +kernel
theorem d2_isBackDue_28 : decode (mm_cc M2_isBackDue) 28 = .ok (.if_icmp .ne 26, 3) := by decide +kernel
theorem d2_isBackDue_31 : decode (mm_cc M2_isBackDue) 31 = .ok (.iload_n 3, 1) := by decide +kernel
theorem d2_isBackDue_32 : decode (mm_cc M2_isBackDue) 32 = .ok (.iconst (-1), 1) := by decide +kernel
theorem d2_isBackDue_33 : decode (mm_cc M2_isBackDue) 33 = .ok (.if_icmp .eq 21, 3) := by decide +kernel
theorem d2_isBackDue_36 : decode (mm_cc M2_isBackDue) 36 = .ok (.aload_n 0, 1) := by decide +kernel
theorem d2_isBackDue_37 : decode (mm_cc M2_isBackDue) 37 = .ok (.getfield 19, 3) := by decide +kernel
theorem d2_isBackDue_40 : decode (mm_cc M2_isBackDue) 40 = .ok (.getfield 144, 3) := by decide +kernel
theorem d2_isBackDue_43 : decode (mm_cc M2_isBackDue) 43 = .ok (.iload_n 3, 1) := by decide +kernel
theorem d2_isBackDue_44 : decode (mm_cc M2_isBackDue) 44 = .ok (.isub, 1) := by decide +kernel
theorem d2_isBackDue_45 : decode (mm_cc M2_isBackDue) 45 = .ok (.bipush 9, 2) := by decide +kernel
theorem d2_isBackDue_47 : decode (mm_cc M2_isBackDue) 47 = .ok (.if_icmp .lt 7, 3) := by decide +kernel
theorem d2_isBackDue_50 : decode (mm_cc M2_isBackDue) 50 = .ok (.iconst 1, 1) := by decide +kernel
theorem d2_isBackDue_51 : decode (mm_cc M2_isBackDue) 51 = .ok (.goto 4, 3) := by decide +kernel
theorem d2_isBackDue_54 : decode (mm_cc M2_isBackDue) 54 = .ok (.iconst 0, 1) := by decide +kernel
theorem d2_isBackDue_55 : decode (mm_cc M2_isBackDue) 55 = .ok (.ireturn, 1) := by decide +kernel
theorem d2_startLearning_0 : decode (mm_cc M2_startLearning) 0 = .ok (.aload_n 0, 1) := by decide +kernel
theorem d2_startLearning_1 : decode (mm_cc M2_startLearning) 1 = .ok (.getfield 19, 3) := by decide +kernel
theorem d2_startLearning_4 : decode (mm_cc M2_startLearning) 4 = .ok (.getfield 93, 3) := by decide +kernel
theorem d2_startLearning_7 : decode (mm_cc M2_startLearning) 7 = .ok (.iload_n 1, 1) := by decide +kernel
theorem d2_startLearning_8 : decode (mm_cc M2_startLearning) 8 = .ok (.iload_n 2, 1) := by decide +kernel
theorem d2_startLearning_9 : decode (mm_cc M2_startLearning) 9 = .ok (.invokevirtual 85, 3) := by decide +kernel
theorem d2_startLearning_12 : decode (mm_cc M2_startLearning) 12 = .ok (.aload_n 0, 1) := by decide +kernel
theorem d2_startLearning_13 : decode (mm_cc M2_startLearning) 13 = .ok (.getfield 19, 3) := by decide +kernel
theorem d2_startLearning_16 : decode (mm_cc M2_startLearning) 16 = .ok (.getfield 116, 3) := by decide +kernel
theorem d2_startLearning_19 : decode (mm_cc M2_startLearning) 19 = .ok (.iload_n 1, 1) := by decide +kernel
theorem d2_startLearning_20 : decode (mm_cc M2_startLearning) 20 = .ok (.iconst 0, 1) := by decide +kernel
theorem d2_startLearning_21 : decode (mm_cc M2_startLearning) 21 = .ok (.invokevirtual 85, 3) := by decide +kernel
theorem d2_startLearning_24 : decode (mm_cc M2_startLearning) 24 = .ok (.return_, 1) := by decide +kernel
theorem d3_countStates_0 : decode (mm_cc M3_countStates) 0 = .ok (.aload_n 0, 1) := by decide +kernel
theorem d3_countStates_1 : decode (mm_cc M3_countStates) 1 = .ok (.iconst 1, 1) := by decide +kernel
theorem d3_countStates_2 : decode (mm_cc M3_countStates) 2 = .ok (.putfield 29, 3) := by decide +kernel
theorem d3_countStates_5 : decode (mm_cc M3_countStates) 5 = .ok (.iconst 0, 1) := by decide +kernel
theorem d3_countStates_6 : decode (mm_cc M3_countStates) 6 = .ok (.istore_n 1, 1) := by decide +kernel
theorem d3_countStates_7 : decode (mm_cc M3_countStates) 7 = .ok (.iload_n 1, 1) := by decide +kernel
theorem d3_countStates_8 : decode (mm_cc M3_countStates) 8 = .ok (.aload_n 0, 1) := by decide +kernel
theorem d3_countStates_9 : decode (mm_cc M3_countStates) 9 = .ok (.getfield 33, 3) := by decide +kernel
theorem d3_countStates_12 : decode (mm_cc M3_countStates) 12 = .ok (.getfield 78, 3) := by decide +kernel
theorem d3_countStates_15 : decode (mm_cc M3_countStates) 15 = .ok (.if_icmp .ge 40, 3) := by decide +kernel
theorem d3_countStates_18 : decode (mm_cc M3_countStates) 18 = .ok (.aload_n 0, 1) := by decide +kernel
theorem d3_countStates_19 : decode (mm_cc M3_countStates) 19 = .ok (.getfield 14, 3) := by decide +kernel
theorem d3_countStates_22 : decode (mm_cc M3_countStates) 22 = .ok (.iload_n 1, 1) := by decide +kernel
theorem d3_countStates_23 : decode (mm_cc M3_countStates) 23 = .ok (.aload_n 0, 1) := by decide +kernel
theorem d3_countStates_24 : decode (mm_cc M3_countStates) 24 = .ok (.getfield 29, 3) := by decide +kernel
theorem d3_countStates_27 : decode (mm_cc M3_countStates) 27 = .ok (.invokevirtual 83, 3) := by decide +kernel
theorem d3_countStates_30 : decode (mm_cc M3_countStates) 30 = .ok (.aload_n 0, 1) := by decide +kernel
theorem d3_countStates_31 : decode (mm_cc M3_countStates) 31 = .ok (.dup, 1) := by decide +kernel
theorem d3_countStates_32 : decode (mm_cc M3_countStates) 32 = .ok (.getfield 29, 3) := by decide +kernel
theorem d3_countStates_35 : decode (mm_cc M3_countStates) 35 = .ok (.aload_n 0, 1) := by decide +kernel
theorem d3_countStates_36 : decode (mm_cc M3_countStates) 36 = .ok (.getfield 41, 3) := by decide +kernel
theorem d3_countStates_39 : decode (mm_cc M3_countStates) 39 = .ok (.iload_n 1, 1) := by decide +kernel
theorem d3_countStates_40 : decode (mm_cc M3_countStates) 40 = .ok (.invokevirtual 71, 3) := by decide +kernel
theorem d3_countStates_43 : decode (mm_cc M3_countStates) 43 = .ok (.iconst 1, 1) := by decide +kernel
theorem d3_countStates_44 : decode (mm_cc M3_countStates) 44 = .ok (.iadd, 1) := by decide +kernel
theorem d3_countStates_45 : decode (mm_cc M3_countStates) 45 = .ok (.imul, 1) := by decide +kernel
theorem d3_countStates_46 : decode (mm_cc M3_countStates) 46 = .ok (.putfield 29, 3) := by decide +kernel
theorem d3_countStates_49 : decode (mm_cc M3_countStates) 49 = .ok (.iinc 1 1, 3) := by decide +kernel
theorem d3_countStates_52 : decode (mm_cc M3_countStates) 52 = .ok (.goto (-45), 3) := by decide +kernel
theorem d3_countStates_55 : decode (mm_cc M3_countStates) 55 = .ok (.return_, 1) := by decide +kernel
theorem d3_stillWanted_0 : decode (mm_cc M3_stillWanted) 0 = .ok (.iconst 1, 1) := by decide +kernel
theorem d3_stillWanted_1 : decode (mm_cc M3_stillWanted) 1 = .ok (.aload_n 0, 1) := by decide +kernel
theorem d3_stillWanted_2 : decode (mm_cc M3_stillWanted) 2 = .ok (.getfield 14, 3) := by decide +kernel
theorem d3_stillWanted_5 : decode (mm_cc M3_stillWanted) 5 = .ok (.iload_n 2, 1) := by decide +kernel
theorem d3_stillWanted_6 : decode (mm_cc M3_stillWanted) 6 = .ok (.invokevirtual 71, 3) := by decide +kernel
theorem d3_stillWanted_9 : decode (mm_cc M3_stillWanted) 9 = .ok (.invokestatic 129, 3) := by decide +kernel
theorem d3_stillWanted_12 : decode (mm_cc M3_stillWanted) 12 = .ok (.istore_n 3, 1) := by decide +kernel
theorem d3_stillWanted_13 : decode (mm_cc M3_stillWanted) 13 = .ok (.iload_n 1, 1) := by decide +kernel
theorem d3_stillWanted_14 : decode (mm_cc M3_stillWanted) 14 = .ok (.iload_n 3, 1) := by decide +kernel
theorem d3_stillWanted_15 : decode (mm_cc M3_stillWanted) 15 = .ok (.idiv, 1) := by decide +kernel
theorem d3_stillWanted_16 : decode (mm_cc M3_stillWanted) 16 = .ok (.iconst 0, 1) := by decide +kernel
theorem d3_stillWanted_17 : decode (mm_cc M3_stillWanted) 17 = .ok (.aload_n 0, 1) := by decide +kernel
theorem d3_stillWanted_18 : decode (mm_cc M3_stillWanted) 18 = .ok (.getfield 41, 3) := by decide +kernel
theorem d3_stillWanted_21 : decode (mm_cc M3_stillWanted) 21 = .ok (.iload_n 2, 1) := by decide +kernel
theorem d3_stillWanted_22 : decode (mm_cc M3_stillWanted) 22 = .ok (.invokevirtual 71, 3) := by decide +kernel
theorem d3_stillWanted_25 : decode (mm_cc M3_stillWanted) 25 = .ok (.invokestatic 129, 3) := by decide +kernel
theorem d3_stillWanted_28 : decode (mm_cc M3_stillWanted) 28 = .ok (.iconst 1, 1) := by decide +kernel
theorem d3_stillWanted_29 : decode (mm_cc M3_stillWanted) 29 = .ok (.iadd, 1) := by decide +kernel
theorem d3_stillWanted_30 : decode (mm_cc M3_stillWanted) 30 = .ok (.irem, 1) := by decide +kernel
theorem d3_stillWanted_31 : decode (mm_cc M3_stillWanted) 31 = .ok (.ireturn, 1) := by decide +kernel
theorem d3_wantedInAll_0 : decode (mm_cc M3_wantedInAll) 0 = .ok (.iconst 0, 1) := by decide +kernel
theorem d3_wantedInAll_1 : decode (mm_cc M3_wantedInAll) 1 = .ok (.istore_n 1, 1) := by decide +kernel
theorem d3_wantedInAll_2 : decode (mm_cc M3_wantedInAll) 2 = .ok (.iconst 0, 1) := by decide +kernel
theorem d3_wantedInAll_3 : decode (mm_cc M3_wantedInAll) 3 = .ok (.istore_n 2, 1) := by decide +kernel
theorem d3_wantedInAll_4 : decode (mm_cc M3_wantedInAll) 4 = .ok (.iload_n 2, 1) := by decide +kernel
theorem d3_wantedInAll_5 : decode (mm_cc M3_wantedInAll) 5 = .ok (.aload_n 0, 1) := by decide +kernel
theorem d3_wantedInAll_6 : decode (mm_cc M3_wantedInAll) 6 = .ok (.getfield 33, 3) := by decide +kernel
theorem d3_wantedInAll_9 : decode (mm_cc M3_wantedInAll) 9 = .ok (.getfield 78, 3) := by decide +kernel
theorem d3_wantedInAll_12 : decode (mm_cc M3_wantedInAll) 12 = .ok (.if_icmp .ge 20, 3) := by decide +kernel
theorem d3_wantedInAll_15 : decode (mm_cc M3_wantedInAll) 15 = .ok (.iload_n 1, 1) := by decide +kernel
theorem d3_wantedInAll_16 : decode (mm_cc M3_wantedInAll) 16 = .ok (.aload_n 0, 1) := by decide +kernel
theorem d3_wantedInAll_17 : decode (mm_cc M3_wantedInAll) 17 = .ok (.getfield 41, 3) := by decide +kernel
theorem d3_wantedInAll_20 : decode (mm_cc M3_wantedInAll) 20 = .ok (.iload_n 2, 1) := by decide +kernel
theorem d3_wantedInAll_21 : decode (mm_cc M3_wantedInAll) 21 = .ok (.invokevirtual 71, 3) := by decide +kernel
theorem d3_wantedInAll_24 : decode (mm_cc M3_wantedInAll) 24 = .ok (.iadd, 1) := by decide +kernel
theorem d3_wantedInAll_25 : decode (mm_cc M3_wantedInAll) 25 = .ok (.istore_n 1, 1) := by decide +kernel
theorem d3_wantedInAll_26 : decode (mm_cc M3_wantedInAll) 26 = .ok (.iinc 2 1, 3) := by decide +kernel
theorem d3_wantedInAll_29 : decode (mm_cc M3_wantedInAll) 29 = .ok (.goto (-25), 3) := by decide +kernel
theorem d3_wantedInAll_32 : decode (mm_cc M3_wantedInAll) 32 = .ok (.iload_n 1, 1) := by decide +kernel
theorem d3_wantedInAll_33 : decode (mm_cc M3_wantedInAll) 33 = .ok (.ireturn, 1) := by decide +kernel
theorem d4_advance_0 : decode (mm_cc M4_advance) 0 = .ok (.aload_n 0, 1) := by decide +kernel
theorem d4_advance_1 : decode (mm_cc M4_advance) 1 = .ok (.getfield 30, 3) := by decide +kernel
theorem d4_advance_4 : decode (mm_cc M4_advance) 4 = .ok (.istore_n 1, 1) := by decide +kernel
theorem d4_advance_5 : decode (mm_cc M4_advance) 5 = .ok (.iload_n 1, 1) := by decide +kernel
theorem d4_advance_6 : decode (mm_cc M4_advance) 6 = .ok (.aload_n 0, 1) := by decide +kernel
theorem d4_advance_7 : decode (mm_cc M4_advance) 7 = .ok (.getfield 20, 3) := by decide +kernel
theorem d4_advance_10 : decode (mm_cc M4_advance) 10 = .ok (.if_icmp .ge 22, 3) := by decide +kernel
theorem d4_advance_13 : decode (mm_cc M4_advance) 13 = .ok (.aload_n 0, 1) := by decide +kernel
theorem d4_advance_14 : decode (mm_cc M4_advance) 14 = .ok (.getfield 14, 3) := by decide +kernel
theorem d4_advance_17 : decode (mm_cc M4_advance) 17 = .ok (.iload_n 1, 1) := by decide +kernel
theorem d4_advance_18 : decode (mm_cc M4_advance) 18 = .ok (.invokevirtual 46, 3) := by decide +kernel
theorem d4_advance_21 : decode (mm_cc M4_advance) 21 = .ok (.bipush 32, 2) := by decide +kernel
theorem d4_advance_23 : decode (mm_cc M4_advance) 23 = .ok (.if_icmp .ne 9, 3) := by decide +kernel
theorem d4_advance_26 : decode (mm_cc M4_advance) 26 = .ok (.iinc 1 1, 3) := by decide +kernel
theorem d4_advance_29 : decode (mm_cc M4_advance) 29 = .ok (.goto (-24), 3) := by decide +kernel
theorem d4_advance_32 : decode (mm_cc M4_advance) 32 = .ok (.aload_n 0, 1) := by decide +kernel
theorem d4_advance_33 : decode (mm_cc M4_advance) 33 = .ok (.iload_n 1, 1) := by decide +kernel
theorem d4_advance_34 : decode (mm_cc M4_advance) 34 = .ok (.putfield 27, 3) := by decide +kernel
theorem d4_advance_37 : decode (mm_cc M4_advance) 37 = .ok (.aload_n 0, 1) := by decide +kernel
theorem d4_advance_38 : decode (mm_cc M4_advance) 38 = .ok (.iload_n 1, 1) := by decide +kernel
theorem d4_advance_39 : decode (mm_cc M4_advance) 39 = .ok (.aload_n 0, 1) := by decide +kernel
theorem d4_advance_40 : decode (mm_cc M4_advance) 40 = .ok (.getfield 20, 3) := by decide +kernel
theorem d4_advance_43 : decode (mm_cc M4_advance) 43 = .ok (.if_icmp .ge 17, 3) := by decide +kernel
theorem d4_advance_46 : decode (mm_cc M4_advance) 46 = .ok (.aload_n 0, 1) := by decide +kernel
theorem d4_advance_47 : decode (mm_cc M4_advance) 47 = .ok (.getfield 14, 3) := by decide +kernel
theorem d4_advance_50 : decode (mm_cc M4_advance) 50 = .ok (.iload_n 1, 1) := by decide +kernel
theorem d4_advance_51 : decode (mm_cc M4_advance) 51 = .ok (.invokevirtual 46, 3) := by decide +kernel
theorem d4_advance_54 : decode (mm_cc M4_advance) 54 = .ok (.invokestatic 50, 3) := by decide +kernel
theorem d4_advance_57 : decode (mm_cc M4_advance) 57 = .ok (.goto 4, 3) := by decide +kernel
theorem d4_advance_60 : decode (mm_cc M4_advance) 60 = .ok (.iconst 0, 1) := by decide +kernel
theorem d4_advance_61 : decode (mm_cc M4_advance) 61 = .ok (.putfield 24, 3) := by decide +kernel
theorem d4_advance_64 : decode (mm_cc M4_advance) 64 = .ok (.iload_n 1, 1) := by decide +kernel
theorem d4_advance_65 : decode (mm_cc M4_advance) 65 = .ok (.aload_n 0, 1) := by decide +kernel
theorem d4_advance_66 : decode (mm_cc M4_advance) 66 = .ok (.getfield 20, 3) := by decide +kernel
theorem d4_advance_69 : decode (mm_cc M4_advance) 69 = .ok (.if_icmp .ge 6, 3) := by decide +kernel
theorem d4_advance_72 : decode (mm_cc M4_advance) 72 = .ok (.iinc 1 1, 3) := by decide +kernel
theorem d4_advance_75 : decode (mm_cc M4_advance) 75 = .ok (.iload_n 1, 1) := by decide +kernel
theorem d4_advance_76 : decode (mm_cc M4_advance) 76 = .ok (.aload_n 0, 1) := by decide +kernel
theorem d4_advance_77 : decode (mm_cc M4_advance) 77 = .ok (.getfield 20, 3) := by decide +kernel
theorem d4_advance_80 : decode (mm_cc M4_advance) 80 = .ok (.if_icmp .ge 43, 3) := by decide +kernel
theorem d4_advance_83 : decode (mm_cc M4_advance) 83 = .ok (.aload_n 0, 1) := by decide +kernel
theorem d4_advance_84 : decode (mm_cc M4_advance) 84 = .ok (.getfield 24, 3) := by decide +kernel
theorem d4_advance_87 : decode (mm_cc M4_advance) 87 = .ok (.iconst 1, 1) := by decide +kernel
theorem d4_advance_88 : decode (mm_cc M4_advance) 88 = .ok (.if_icmp .eq 11, 3) := by decide +kernel
theorem d4_advance_91 : decode (mm_cc M4_advance) 91 = .ok (.aload_n 0, 1) := by decide +kernel
theorem d4_advance_92 : decode (mm_cc M4_advance) 92 = .ok (.getfield 24, 3) := by decide +kernel
theorem d4_advance_95 : decode (mm_cc M4_advance) 95 = .ok (.iconst 2, 1) := by decide +kernel
theorem d4_advance_96 : decode (mm_cc M4_advance) 96 = .ok (.if_icmp .ne 27, 3) := by decide +kernel
theorem d4_advance_99 : decode (mm_cc M4_advance) 99 = .ok (.aload_n 0, 1) := by decide +kernel
theorem d4_advance_100 : decode (mm_cc M4_advance) 100 = .ok (.getfield 14, 3) := by decide +kernel
theorem d4_advance_103 : decode (mm_cc M4_advance) 103 = .ok (.iload_n 1, 1) := by decide +kernel
theorem d4_advance_104 : decode (mm_cc M4_advance) 104 = .ok (.invokevirtual 46, 3) := by decide +kernel
theorem d4_advance_107 : decode (mm_cc M4_advance) 107 = .ok (.invokestatic 50, 3) := by decide +kernel
theorem d4_advance_110 : decode (mm_cc M4_advance) 110 = .ok (.aload_n 0, 1) := by decide +kernel
theorem d4_advance_111 : decode (mm_cc M4_advance) 111 = .ok (.getfield 24, 3) := by decide +kernel
theorem d4_advance_114 : decode (mm_cc M4_advance) 114 = .ok (.if_icmp .ne 9, 3) := by decide +kernel
theorem d4_advance_117 : decode (mm_cc M4_advance) 117 = .ok (.iinc 1 1, 3) := by decide +kernel
theorem d4_advance_120 : decode (mm_cc M4_advance) 120 = .ok (.goto (-45), 3) := by decide +kernel
theorem d4_advance_123 : decode (mm_cc M4_advance) 123 = .ok (.aload_n 0, 1) := by decide +kernel
theorem d4_advance_124 : decode (mm_cc M4_advance) 124 = .ok (.iload_n 1, 1) := by decide +kernel
theorem d4_advance_125 : decode (mm_cc M4_advance) 125 = .ok (.putfield 30, 3) := by decide +kernel
theorem d4_advance_128 : decode (mm_cc M4_advance) 128 = .ok (.return_, 1) := by decide +kernel
theorem d4_append_0 : decode (mm_cc M4_append) 0 = .ok (.aload_n 0, 1) := by decide +kernel
theorem d4_append_1 : decode (mm_cc M4_append) 1 = .ok (.getfield 14, 3) := by decide +kernel
theorem d4_append_4 : decode (mm_cc M4_append) 4 = .ok (.aload_n 0, 1) := by decide +kernel
theorem d4_append_5 : decode (mm_cc M4_append) 5 = .ok (.getfield 20, 3) := by decide +kernel
theorem d4_append_8 : decode (mm_cc M4_append) 8 = .ok (.iload_n 1, 1) := by decide +kernel
theorem d4_append_9 : decode (mm_cc M4_append) 9 = .ok (.invokevirtual 39, 3) := by decide +kernel
theorem d4_append_12 : decode (mm_cc M4_append) 12 = .ok (.aload_n 0, 1) := by decide +kernel
theorem d4_append_13 : decode (mm_cc M4_append) 13 = .ok (.dup, 1) := by decide +kernel
theorem d4_append_14 : decode (mm_cc M4_append) 14 = .ok (.getfield 20, 3) := by decide +kernel
theorem d4_append_17 : decode (mm_cc M4_append) 17 = .ok (.iconst 1, 1) := by decide +kernel
theorem d4_append_18 : decode (mm_cc M4_append) 18 = .ok (.iadd, 1) := by decide +kernel
theorem d4_append_19 : decode (mm_cc M4_append) 19 = .ok (.putfield 20, 3) := by decide +kernel
theorem d4_append_22 : decode (mm_cc M4_append) 22 = .ok (.return_, 1) := by decide +kernel
theorem d4_figures_0 : decode (mm_cc M4_figures) 0 = .ok (.iconst 0, 1) := by decide +kernel
theorem d4_figures_1 : decode (mm_cc M4_figures) 1 = .ok (.istore_n 1, 1) := by decide +kernel
theorem d4_figures_2 : decode (mm_cc M4_figures) 2 = .ok (.aload_n 0, 1) := by decide +kernel
theorem d4_figures_3 : decode (mm_cc M4_figures) 3 = .ok (.getfield 27, 3) := by decide +kernel
theorem d4_figures_6 : decode (mm_cc M4_figures) 6 = .ok (.istore_n 2, 1) := by decide +kernel
theorem d4_figures_7 : decode (mm_cc M4_figures) 7 = .ok (.iload_n 2, 1) := by decide +kernel
theorem d4_figures_8 : decode (mm_cc M4_figures) 8 = .ok (.aload_n 0, 1) := by decide +kernel
theorem d4_figures_9 : decode (mm_cc M4_figures) 9 = .ok (.getfield 30, 3) := by decide +kernel
theorem d4_figures_12 : decode (mm_cc M4_figures) 12 = .ok (.if_icmp .ge 26, 3) := by decide +kernel
theorem d4_figures_15 : decode (mm_cc M4_figures) 15 = .ok (.iload_n 1, 1) := by decide +kernel
theorem d4_figures_16 : decode (mm_cc M4_figures) 16 = .ok (.bipush 10, 2) := by decide +kernel
theorem d4_figures_18 : decode (mm_cc M4_figures) 18 = .ok (.imul, 1) := by decide +kernel
theorem d4_figures_19 : decode (mm_cc M4_figures) 19 = .ok (.aload_n 0, 1) := by decide +kernel
theorem d4_figures_20 : decode (mm_cc M4_figures) 20 = .ok (.getfield 14, 3) := by decide +kernel
theorem d4_figures_23 : decode (mm_cc M4_figures) 23 = .ok (.iload_n 2, 1) := by decide +kernel
theorem d4_figures_24 : decode (mm_cc M4_figures) 24 = .ok (.invokevirtual 46, 3) := by decide +kernel
theorem d4_figures_27 : decode (mm_cc M4_figures) 27 = .ok (.iadd, 1) := by decide +kernel
theorem d4_figures_28 : decode (mm_cc M4_figures) 28 = .ok (.bipush 48, 2) := by decide +kernel
theorem d4_figures_30 : decode (mm_cc M4_figures) 30 = .ok (.isub, 1) := by decide +kernel
theorem d4_figures_31 : decode (mm_cc M4_figures) 31 = .ok (.istore_n 1, 1) := by decide +kernel
theorem d4_figures_32 : decode (mm_cc M4_figures) 32 = .ok (.iinc 2 1, 3) := by decide +kernel
theorem d4_figures_35 : decode (mm_cc M4_figures) 35 = .ok (.goto (-28), 3) := by decide +kernel
theorem d4_figures_38 : decode (mm_cc M4_figures) 38 = .ok (.iload_n 1, 1) := by decide +kernel
theorem d4_figures_39 : decode (mm_cc M4_figures) 39 = .ok (.ireturn, 1) := by decide +kernel
theorem d5_closeRing_0 : decode (mm_cc M5_closeRing) 0 = .ok (.iload_n 3, 1) := by decide +kernel
theorem d5_closeRing_1 : decode (mm_cc M5_closeRing) 1 = .ok (.ifCond .le 36, 3) := by decide +kernel
theorem d5_closeRing_4 : decode (mm_cc M5_closeRing) 4 = .ok (.iload_n 2, 1) := by decide +kernel
theorem d5_closeRing_5 : decode (mm_cc M5_closeRing) 5 = .ok (.iload_n 3, 1) := by decide +kernel
theorem d5_closeRing_6 : decode (mm_cc M5_closeRing) 6 = .ok (.iadd, 1) := by decide +kernel
theorem d5_closeRing_7 : decode (mm_cc M5_closeRing) 7 = .ok (.aload_n 0, 1) := by decide +kernel
theorem d5_closeRing_8 : decode (mm_cc M5_closeRing) 8 = .ok (.getfield 29, 3) := by decide +kernel
theorem d5_closeRing_11 : decode (mm_cc M5_closeRing) 11 = .ok (.if_icmp .le 26, 3) := by decide +kernel
theorem d5_closeRing_14 : decode (mm_cc M5_closeRing) 14 = .ok (.aload_n 0, 1) := by decide +kernel
theorem d5_closeRing_15 : decode (mm_cc M5_closeRing) 15 = .ok (.iload_n 2, 1) := by decide +kernel
theorem d5_closeRing_16 : decode (mm_cc M5_closeRing) 16 = .ok (.iload_n 3, 1) := by decide +kernel
theorem d5_closeRing_17 : decode (mm_cc M5_closeRing) 17 = .ok (.iadd, 1) := by decide +kernel
theorem d5_closeRing_18 : decode (mm_cc M5_closeRing) 18 = .ok (.putfield 29, 3) := by decide +kernel
theorem d5_closeRing_21 : decode (mm_cc M5_closeRing) 21 = .ok (.aload_n 0, 1) := by decide +kernel
theorem d5_closeRing_22 : decode (mm_cc M5_closeRing) 22 = .ok (.iload_n 1, 1) := by decide +kernel
theorem d5_closeRing_23 : decode (mm_cc M5_closeRing) 23 = .ok (.putfield 33, 3) := by decide +kernel
theorem d5_closeRing_26 : decode (mm_cc M5_closeRing) 26 = .ok (.aload_n 0, 1) := by decide +kernel
theorem d5_closeRing_27 : decode (mm_cc M5_closeRing) 27 = .ok (.getfield 26, 3) := by decide +kernel
theorem d5_closeRing_30 : decode (mm_cc M5_closeRing) 30 = .ok (.aload_n 0, 1) := by decide +kernel
theorem d5_closeRing_31 : decode (mm_cc M5_closeRing) 31 = .ok (.getfield 23, 3) := by decide +kernel
theorem d5_closeRing_34 : decode (mm_cc M5_closeRing) 34 = .ok (.invokevirtual 112, 3) := by decide +kernel
theorem d5_closeRing_37 : decode (mm_cc M5_closeRing) 37 = .ok (.return_, 1) := by decide +kernel
theorem d5_gainFrom_0 : decode (mm_cc M5_gainFrom) 0 = .ok (.aload_n 0, 1) := by decide +kernel
theorem d5_gainFrom_1 : decode (mm_cc M5_gainFrom) 1 = .ok (.getfield 20, 3) := by decide +kernel
theorem d5_gainFrom_4 : decode (mm_cc M5_gainFrom) 4 = .ok (.iload_n 1, 1) := by decide +kernel
theorem d5_gainFrom_5 : decode (mm_cc M5_gainFrom) 5 = .ok (.bipush 8, 2) := by decide +kernel
theorem d5_gainFrom_7 : decode (mm_cc M5_gainFrom) 7 = .ok (.imul, 1) := by decide +kernel
theorem d5_gainFrom_8 : decode (mm_cc M5_gainFrom) 8 = .ok (.iload_n 2, 1) := by decide +kernel
theorem d5_gainFrom_9 : decode (mm_cc M5_gainFrom) 9 = .ok (.iadd, 1) := by decide +kernel
theorem d5_gainFrom_10 : decode (mm_cc M5_gainFrom) 10 = .ok (.invokevirtual 75, 3) := by decide +kernel
theorem d5_gainFrom_13 : decode (mm_cc M5_gainFrom) 13 = .ok (.ireturn, 1) := by decide +kernel
theorem d5_isOnPath_0 : decode (mm_cc M5_isOnPath) 0 = .ok (.iconst 0, 1) := by decide +kernel
theorem d5_isOnPath_1 : decode (mm_cc M5_isOnPath) 1 = .ok (.istore_n 3, 1) := by decide +kernel
theorem d5_isOnPath_2 : decode (mm_cc M5_isOnPath) 2 = .ok (.iload_n 3, 1) := by decide +kernel
theorem d5_isOnPath_3 : decode (mm_cc M5_isOnPath) 3 = .ok (.iload_n 2, 1) := by decide +kernel
theorem d5_isOnPath_4 : decode (mm_cc M5_isOnPath) 4 = .ok (.if_icmp .ge 23, 3) := by decide +kernel
theorem d5_isOnPath_7 : decode (mm_cc M5_isOnPath) 7 = .ok (.aload_n 0, 1) := by decide +kernel
theorem d5_isOnPath_8 : decode (mm_cc M5_isOnPath) 8 = .ok (.getfield 23, 3) := by decide +kernel
theorem d5_isOnPath_11 : decode (mm_cc M5_isOnPath) 11 = .ok (.iload_n 3, 1) := by decide +kernel
theorem d5_isOnPath_12 : decode (mm_cc M5_isOnPath) 12 = .ok (.invokevirtual 75, 3) := by decide +kernel
theorem d5_isOnPath_15 : decode (mm_cc M5_isOnPath) 15 = .ok (.iload_n 1, 1) := by decide +kernel
theorem d5_isOnPath_16 : decode (mm_cc M5_isOnPath) 16 = .ok (.if_icmp .ne 5, 3) := by decide +kernel
theorem d5_isOnPath_19 : decode (mm_cc M5_isOnPath) 19 = .ok (.iconst 1, 1) := by decide +kernel
theorem d5_isOnPath_20 : decode (mm_cc M5_isOnPath) 20 = .ok (.ireturn, 1) := by decide +kernel
theorem d5_isOnPath_21 : decode (mm_cc M5_isOnPath) 21 = .ok (.iinc 3 1, 3) := by decide +kernel
theorem d5_isOnPath_24 : decode (mm_cc M5_isOnPath) 24 = .ok (.goto (-22), 3) := by decide +kernel
theorem d5_isOnPath_27 : decode (mm_cc M5_isOnPath) 27 = .ok (.iconst 0, 1) := by decide +kernel
theorem d5_isOnPath_28 : decode (mm_cc M5_isOnPath) 28 = .ok (.ireturn, 1) := by decide +kernel
theorem d8_addEntry_0 : decode (mm_cc M8_addEntry) 0 = .ok (.aload_n 0, 1) := by decide +kernel
theorem d8_addEntry_1 : decode (mm_cc M8_addEntry) 1 = .ok (.getfield 26, 3) := by decide +kernel
theorem d8_addEntry_4 : decode (mm_cc M8_addEntry) 4 = .ok (.aload_n 0, 1) := by decide +kernel
theorem d8_addEntry_5 : decode (mm_cc M8_addEntry) 5 = .ok (.getfield 39, 3) := by decide +kernel
theorem d8_addEntry_8 : decode (mm_cc M8_addEntry) 8 = .ok (.iload_n 1, 1) := by decide +kernel
theorem d8_addEntry_9 : decode (mm_cc M8_addEntry) 9 = .ok (.invokevirtual 51, 3) := by decide +kernel
theorem d8_addEntry_12 : decode (mm_cc M8_addEntry) 12 = .ok (.aload_n 0, 1) := by decide +kernel
theorem d8_addEntry_13 : decode (mm_cc M8_addEntry) 13 = .ok (.getfield 29, 3) := by decide +kernel
theorem d8_addEntry_16 : decode (mm_cc M8_addEntry) 16 = .ok (.aload_n 0, 1) := by decide +kernel
theorem d8_addEntry_17 : decode (mm_cc M8_addEntry) 17 = .ok (.getfield 39, 3) := by decide +kernel
theorem d8_addEntry_20 : decode (mm_cc M8_addEntry) 20 = .ok (.iload_n 2, 1) := by decide +kernel
theorem d8_addEntry_21 : decode (mm_cc M8_addEntry) 21 = .ok (.invokevirtual 51, 3) := by decide +kernel
theorem d8_addEntry_24 : decode (mm_cc M8_addEntry) 24 = .ok (.aload_n 0, 1) := by decide +kernel
theorem d8_addEntry_25 : decode (mm_cc M8_addEntry) 25 = .ok (.getfield 32, 3) := by decide +kernel
theorem d8_addEntry_28 : decode (mm_cc M8_addEntry) 28 = .ok (.aload_n 0, 1) := by decide +kernel
theorem d8_addEntry_29 : decode (mm_cc M8_addEntry) 29 = .ok (.getfield 39, 3) := by decide +kernel
theorem d8_addEntry_32 : decode (mm_cc M8_addEntry) 32 = .ok (.iload_n 3, 1) := by decide +kernel
theorem d8_addEntry_33 : decode (mm_cc M8_addEntry) 33 = .ok (.invokevirtual 51, 3) := by decide +kernel
theorem d8_addEntry_36 : decode (mm_cc M8_addEntry) 36 = .ok (.aload_n 0, 1) := by decide +kernel
theorem d8_addEntry_37 : decode (mm_cc M8_addEntry) 37 = .ok (.dup, 1) := by decide +kernel
theorem d8_addEntry_38 : decode (mm_cc M8_addEntry) 38 = .ok (.getfield 39, 3) := by decide +kernel
theorem d8_addEntry_41 : decode (mm_cc M8_addEntry) 41 = .ok (.iconst 1, 1) := by decide +kernel
theorem d8_addEntry_42 : decode (mm_cc M8_addEntry) 42 = .ok (.iadd, 1) := by decide +kernel
theorem d8_addEntry_43 : decode (mm_cc M8_addEntry) 43 = .ok (.putfield 39, 3) := by decide +kernel
theorem d8_addEntry_46 : decode (mm_cc M8_addEntry) 46 = .ok (.aload_n 0, 1) := by decide +kernel
theorem d8_addEntry_47 : decode (mm_cc M8_addEntry) 47 = .ok (.getfield 39, 3) := by decide +kernel
theorem d8_addEntry_50 : decode (mm_cc M8_addEntry) 50 = .ok (.ireturn, 1) := by decide +kernel
theorem d8_addThing_0 : decode (mm_cc M8_addThing) 0 = .ok (.aload_n 0, 1) := by decide +kernel
theorem d8_addThing_1 : decode (mm_cc M8_addThing) 1 = .ok (.getfield 14, 3) := by decide +kernel
theorem d8_addThing_4 : decode (mm_cc M8_addThing) 4 = .ok (.aload_n 0, 1) := by decide +kernel
theorem d8_addThing_5 : decode (mm_cc M8_addThing) 5 = .ok (.getfield 35, 3) := by decide +kernel
theorem d8_addThing_8 : decode (mm_cc M8_addThing) 8 = .ok (.iload_n 1, 1) := by decide +kernel
theorem d8_addThing_9 : decode (mm_cc M8_addThing) 9 = .ok (.invokevirtual 51, 3) := by decide +kernel
theorem d8_addThing_12 : decode (mm_cc M8_addThing) 12 = .ok (.aload_n 0, 1) := by decide +kernel
theorem d8_addThing_13 : decode (mm_cc M8_addThing) 13 = .ok (.getfield 20, 3) := by decide +kernel
theorem d8_addThing_16 : decode (mm_cc M8_addThing) 16 = .ok (.aload_n 0, 1) := by decide +kernel
theorem d8_addThing_17 : decode (mm_cc M8_addThing) 17 = .ok (.getfield 35, 3) := by decide +kernel
theorem d8_addThing_20 : decode (mm_cc M8_addThing) 20 = .ok (.iload_n 2, 1) := by decide +kernel
theorem d8_addThing_21 : decode (mm_cc M8_addThing) 21 = .ok (.invokevirtual 51, 3) := by decide +kernel
theorem d8_addThing_24 : decode (mm_cc M8_addThing) 24 = .ok (.aload_n 0, 1) := by decide +kernel
theorem d8_addThing_25 : decode (mm_cc M8_addThing) 25 = .ok (.dup, 1) := by decide +kernel
theorem d8_addThing_26 : decode (mm_cc M8_addThing) 26 = .ok (.getfield 35, 3) := by decide +kernel
theorem d8_addThing_29 : decode (mm_cc M8_addThing) 29 = .ok (.iconst 1, 1) := by decide +kernel
theorem d8_addThing_30 : decode (mm_cc M8_addThing) 30 = .ok (.iadd, 1) := by decide +kernel
theorem d8_addThing_31 : decode (mm_cc M8_addThing) 31 = .ok (.putfield 35, 3) := by decide +kernel
theorem d8_addThing_34 : decode (mm_cc M8_addThing) 34 = .ok (.aload_n 0, 1) := by decide +kernel
theorem d8_addThing_35 : decode (mm_cc M8_addThing) 35 = .ok (.getfield 35, 3) := by decide +kernel
theorem d8_addThing_38 : decode (mm_cc M8_addThing) 38 = .ok (.ireturn, 1) := by decide +kernel
theorem d8_countIfFit_0 : decode (mm_cc M8_countIfFit) 0 = .ok (.iconst 0, 1) := by decide +kernel
theorem d8_countIfFit_1 : decode (mm_cc M8_countIfFit) 1 = .ok (.istore_n 2, 1) := by decide +kernel
theorem d8_countIfFit_2 : decode (mm_cc M8_countIfFit) 2 = .ok (.iload_n 2, 1) := by decide +kernel
theorem d8_countIfFit_3 : decode (mm_cc M8_countIfFit) 3 = .ok (.aload_n 0, 1) := by decide +kernel
theorem d8_countIfFit_4 : decode (mm_cc M8_countIfFit) 4 = .ok (.getfield 35, 3) := by decide +kernel
theorem d8_countIfFit_7 : decode (mm_cc M8_countIfFit) 7 = .ok (.if_icmp .ge 23, 3) := by decide +kernel
theorem d8_countIfFit_10 : decode (mm_cc M8_countIfFit) 10 = .ok (.aload_n 0, 1) := by decide +kernel
theorem d8_countIfFit_11 : decode (mm_cc M8_countIfFit) 11 = .ok (.getfield 23, 3) := by decide +kernel
theorem d8_countIfFit_14 : decode (mm_cc M8_countIfFit) 14 = .ok (.iload_n 2, 1) := by decide +kernel
theorem d8_countIfFit_15 : decode (mm_cc M8_countIfFit) 15 = .ok (.invokevirtual 55, 3) := by decide +kernel
theorem d8_countIfFit_18 : decode (mm_cc M8_countIfFit) 18 = .ok (.iload_n 1, 1) := by decide +kernel
theorem d8_countIfFit_19 : decode (mm_cc M8_countIfFit) 19 = .ok (.iand, 1) := by decide +kernel
theorem d8_countIfFit_20 : decode (mm_cc M8_countIfFit) 20 = .ok (.ifCond .ne 4, 3) := by decide +kernel
theorem d8_countIfFit_23 : decode (mm_cc M8_countIfFit) 23 = .ok (.return_, 1) := by decide +kernel
theorem d8_countIfFit_24 : decode (mm_cc M8_countIfFit) 24 = .ok (.iinc 2 1, 3) := by decide +kernel
theorem d8_countIfFit_27 : decode (mm_cc M8_countIfFit) 27 = .ok (.goto (-25), 3) := by decide +kernel
theorem d8_countIfFit_30 : decode (mm_cc M8_countIfFit) 30 = .ok (.aload_n 0, 1) := by decide +kernel
theorem d8_countIfFit_31 : decode (mm_cc M8_countIfFit) 31 = .ok (.dup, 1) := by decide +kernel
theorem d8_countIfFit_32 : decode (mm_cc M8_countIfFit) 32 = .ok (.getfield 42, 3) := by decide +kernel
theorem d8_countIfFit_35 : decode (mm_cc M8_countIfFit) 35 = .ok (.iconst 1, 1) := by decide +kernel
theorem d8_countIfFit_36 : decode (mm_cc M8_countIfFit) 36 = .ok (.iadd, 1) := by decide +kernel
theorem d8_countIfFit_37 : decode (mm_cc M8_countIfFit) 37 = .ok (.putfield 42, 3) := by decide +kernel
theorem d8_countIfFit_40 : decode (mm_cc M8_countIfFit) 40 = .ok (.aload_n 0, 1) := by decide +kernel
theorem d8_countIfFit_41 : decode (mm_cc M8_countIfFit) 41 = .ok (.dup, 1) := by decide +kernel
theorem d8_countIfFit_42 : decode (mm_cc M8_countIfFit) 42 = .ok (.getfield 48, 3) := by decide +kernel
theorem d8_countIfFit_45 : decode (mm_cc M8_countIfFit) 45 = .ok (.iload_n 1, 1) := by decide +kernel
theorem d8_countIfFit_46 : decode (mm_cc M8_countIfFit) 46 = .ok (.iand, 1) := by decide +kernel
theorem d8_countIfFit_47 : decode (mm_cc M8_countIfFit) 47 = .ok (.putfield 48, 3) := by decide +kernel
theorem d8_countIfFit_50 : decode (mm_cc M8_countIfFit) 50 = .ok (.return_, 1) := by decide +kernel
theorem d10_feed_0 : decode (mm_cc M10_feed) 0 = .ok (.iload_n 1, 1) := by decide +kernel
theorem d10_feed_1 : decode (mm_cc M10_feed) 1 = .ok (.iconst 1, 1) := by decide +kernel
theorem d10_feed_2 : decode (mm_cc M10_feed) 2 = .ok (.bipush 8, 2) := by decide +kernel
theorem d10_feed_4 : decode (mm_cc M10_feed) 4 = .ok (.invokestatic 120, 3) := by decide +kernel
theorem d10_feed_7 : decode (mm_cc M10_feed) 7 = .ok (.ifCond .ne 6, 3) := by decide +kernel
theorem d10_feed_10 : decode (mm_cc M10_feed) 10 = .ok (.ldc 124, 2) := by decide +kernel
theorem d10_feed_12 : decode (mm_cc M10_feed) 12 = .ok (.ireturn, 1) := by decide +kernel
theorem d10_feed_13 : decode (mm_cc M10_feed) 13 = .ok (.aload_n 0, 1) := by decide +kernel
theorem d10_feed_14 : decode (mm_cc M10_feed) 14 = .ok (.getfield 10, 3) := by decide +kernel
theorem d10_feed_17 : decode (mm_cc M10_feed) 17 = .ok (.getfield 125, 3) := by decide +kernel
theorem d10_feed_20 : decode (mm_cc M10_feed) 20 = .ok (.iload_n 1, 1) := by decide +kernel
theorem d10_feed_21 : decode (mm_cc M10_feed) 21 = .ok (.iadd, 1) := by decide +kernel
theorem d10_feed_22 : decode (mm_cc M10_feed) 22 = .ok (.sipush 500, 3) := by decide +kernel
theorem d10_feed_25 : decode (mm_cc M10_feed) 25 = .ok (.if_icmp .le 6, 3) := by decide +kernel
theorem d10_feed_28 : decode (mm_cc M10_feed) 28 = .ok (.ldc 128, 2) := by decide +kernel
theorem d10_feed_30 : decode (mm_cc M10_feed) 30 = .ok (.ireturn, 1) := by decide +kernel
theorem d10_feed_31 : decode (mm_cc M10_feed) 31 = .ok (.iload_n 1, 1) := by decide +kernel
theorem d10_feed_32 : decode (mm_cc M10_feed) 32 = .ok (.iconst 1, 1) := by decide +kernel
theorem d10_feed_33 : decode (mm_cc M10_feed) 33 = .ok (.isub, 1) := by decide +kernel
theorem d10_feed_34 : decode (mm_cc M10_feed) 34 = .ok (.istore 4, 2) := by decide +kernel
theorem d10_feed_36 : decode (mm_cc M10_feed) 36 = .ok (.iload 4, 2) := by decide +kernel
theorem d10_feed_38 : decode (mm_cc M10_feed) 38 = .ok (.ifCond .lt 28, 3) := by decide +kernel
theorem d10_feed_41 : decode (mm_cc M10_feed) 41 = .ok (.aload_n 0, 1) := by decide +kernel
theorem d10_feed_42 : decode (mm_cc M10_feed) 42 = .ok (.getfield 10, 3) := by decide +kernel
theorem d10_feed_45 : decode (mm_cc M10_feed) 45 = .ok (.lload_n 2, 1) := by decide +kernel
theorem d10_feed_46 : decode (mm_cc M10_feed) 46 = .ok (.bipush 8, 2) := by decide +kernel
theorem d10_feed_48 : decode (mm_cc M10_feed) 48 = .ok (.iload 4, 2) := by decide +kernel
theorem d10_feed_50 : decode (mm_cc M10_feed) 50 = .ok (.imul, 1) := by decide +kernel
theorem d10_feed_51 : decode (mm_cc M10_feed) 51 = .ok (.lushr, 1) := by decide +kernel
theorem d10_feed_52 : decode (mm_cc M10_feed) 52 = .ok (.ldc2_w 129, 3) := by decide +kernel
theorem d10_feed_55 : decode (mm_cc M10_feed) 55 = .ok (.land, 1) := by decide +kernel
theorem d10_feed_56 : decode (mm_cc M10_feed) 56 = .ok (.l2i, 1) := by decide +kernel
theorem d10_feed_57 : decode (mm_cc M10_feed) 57 = .ok (.invokevirtual 131, 3) := by decide +kernel
theorem d10_feed_60 : decode (mm_cc M10_feed) 60 = .ok (.iinc 4 (-1), 3) := by decide +kernel
theorem d10_feed_63 : decode (mm_cc M10_feed) 63 = .ok (.goto (-27), 3) := by decide +kernel
theorem d10_feed_66 : decode (mm_cc M10_feed) 66 = .ok (.aload_n 0, 1) := by decide +kernel
theorem d10_feed_67 : decode (mm_cc M10_feed) 67 = .ok (.getfield 10, 3) := by decide +kernel
theorem d10_feed_70 : decode (mm_cc M10_feed) 70 = .ok (.getfield 125, 3) := by decide +kernel
theorem d10_feed_73 : decode (mm_cc M10_feed) 73 = .ok (.ireturn, 1) := by decide +kernel
theorem d10_goBack_0 : decode (mm_cc M10_goBack) 0 = .ok (.iload_n 1, 1) := by decide +kernel
theorem d10_goBack_1 : decode (mm_cc M10_goBack) 1 = .ok (.iconst 0, 1) := by decide +kernel
theorem d10_goBack_2 : decode (mm_cc M10_goBack) 2 = .ok (.iconst 1, 1) := by decide +kernel
theorem d10_goBack_3 : decode (mm_cc M10_goBack) 3 = .ok (.invokestatic 120, 3) := by decide +kernel
theorem d10_goBack_6 : decode (mm_cc M10_goBack) 6 = .ok (.ifCond .ne 6, 3) := by decide +kernel
theorem d10_goBack_9 : decode (mm_cc M10_goBack) 9 = .ok (.ldc 220, 2) := by decide +kernel
theorem d10_goBack_11 : decode (mm_cc M10_goBack) 11 = .ok (.ireturn, 1) := by decide +kernel
theorem d10_goBack_12 : decode (mm_cc M10_goBack) 12 = .ok (.aload_n 0, 1) := by decide +kernel
theorem d10_goBack_13 : decode (mm_cc M10_goBack) 13 = .ok (.getfield 116, 3) := by decide +kernel
theorem d10_goBack_16 : decode (mm_cc M10_goBack) 16 = .ok (.iload_n 1, 1) := by decide +kernel
theorem d10_goBack_17 : decode (mm_cc M10_goBack) 17 = .ok (.invokestatic 263, 3) := by decide +kernel
theorem d10_goBack_20 : decode (mm_cc M10_goBack) 20 = .ok (.ifCond .ne 6, 3) := by decide +kernel
theorem d10_goBack_23 : decode (mm_cc M10_goBack) 23 = .ok (.ldc 167, 2) := by decide +kernel
theorem d10_goBack_25 : decode (mm_cc M10_goBack) 25 = .ok (.ireturn, 1) := by decide +kernel
theorem d10_goBack_26 : decode (mm_cc M10_goBack) 26 = .ok (.aload_n 0, 1) := by decide +kernel
theorem d10_goBack_27 : decode (mm_cc M10_goBack) 27 = .ok (.getfield 42, 3) := by decide +kernel
theorem d10_goBack_30 : decode (mm_cc M10_goBack) 30 = .ok (.aload_n 0, 1) := by decide +kernel
theorem d10_goBack_31 : decode (mm_cc M10_goBack) 31 = .ok (.iload_n 1, 1) := by decide +kernel
theorem d10_goBack_32 : decode (mm_cc M10_goBack) 32 = .ok (.invokevirtual 362, 3) := by decide +kernel
theorem d10_goBack_35 : decode (mm_cc M10_goBack) 35 = .ok (.invokevirtual 154, 3) := by decide +kernel
theorem d10_goBack_38 : decode (mm_cc M10_goBack) 38 = .ok (.iconst 1, 1) := by decide +kernel
theorem d10_goBack_39 : decode (mm_cc M10_goBack) 39 = .ok (.ireturn, 1) := by decide +kernel
theorem d10_keep_0 : decode (mm_cc M10_keep) 0 = .ok (.iload_n 1, 1) := by decide +kernel
theorem d10_keep_1 : decode (mm_cc M10_keep) 1 = .ok (.iconst 0, 1) := by decide +kernel
theorem d10_keep_2 : decode (mm_cc M10_keep) 2 = .ok (.iconst 1, 1) := by decide +kernel
theorem d10_keep_3 : decode (mm_cc M10_keep) 3 = .ok (.invokestatic 120, 3) := by decide +kernel
theorem d10_keep_6 : decode (mm_cc M10_keep) 6 = .ok (.ifCond .ne 6, 3) := by decide +kernel
theorem d10_keep_9 : decode (mm_cc M10_keep) 9 = .ok (.ldc 220, 2) := by decide +kernel
theorem d10_keep_11 : decode (mm_cc M10_keep) 11 = .ok (.ireturn, 1) := by decide +kernel
theorem d10_keep_12 : decode (mm_cc M10_keep) 12 = .ok (.aload_n 0, 1) := by decide +kernel
theorem d10_keep_13 : decode (mm_cc M10_keep) 13 = .ok (.iload_n 1, 1) := by decide +kernel
theorem d10_keep_14 : decode (mm_cc M10_keep) 14 = .ok (.invokevirtual 362, 3) := by decide +kernel
theorem d10_keep_17 : decode (mm_cc M10_keep) 17 = .ok (.aload_n 0, 1) := by decide +kernel
theorem d10_keep_18 : decode (mm_cc M10_keep) 18 = .ok (.getfield 42, 3) := by decide +kernel
theorem d10_keep_21 : decode (mm_cc M10_keep) 21 = .ok (.invokevirtual 154, 3) := by decide +kernel
theorem d10_keep_24 : decode (mm_cc M10_keep) 24 = .ok (.aload_n 0, 1) := by decide +kernel
theorem d10_keep_25 : decode (mm_cc M10_keep) 25 = .ok (.dup, 1) := by decide +kernel
theorem d10_keep_26 : decode (mm_cc M10_keep) 26 = .ok (.getfield 116, 3) := by decide +kernel
theorem d10_keep_29 : decode (mm_cc M10_keep) 29 = .ok (.iconst 1, 1) := by decide +kernel
theorem d10_keep_30 : decode (mm_cc M10_keep) 30 = .ok (.iload_n 1, 1) := by decide +kernel
theorem d10_keep_31 : decode (mm_cc M10_keep) 31 = .ok (.ishl, 1) := by decide +kernel
theorem d10_keep_32 : decode (mm_cc M10_keep) 32 = .ok (.ior, 1) := by decide +kernel
theorem d10_keep_33 : decode (mm_cc M10_keep) 33 = .ok (.putfield 116, 3) := by decide +kernel
theorem d10_keep_36 : decode (mm_cc M10_keep) 36 = .ok (.iconst 1, 1) := by decide +kernel
theorem d10_keep_37 : decode (mm_cc M10_keep) 37 = .ok (.ireturn, 1) := by decide +kernel
theorem d10_like_0 : decode (mm_cc M10_like) 0 = .ok (.aload_n 0, 1) := by decide +kernel
theorem d10_like_1 : decode (mm_cc M10_like) 1 = .ok (.iload_n 1, 1) := by decide +kernel
theorem d10_like_2 : decode (mm_cc M10_like) 2 = .ok (.iload_n 2, 1) := by decide +kernel
theorem d10_like_3 : decode (mm_cc M10_like) 3 = .ok (.invokevirtual 270, 3) := by decide +kernel
theorem d10_like_6 : decode (mm_cc M10_like) 6 = .ok (.ifCond .eq 15, 3) := by decide +kernel
theorem d10_like_9 : decode (mm_cc M10_like) 9 = .ok (.aload_n 0, 1) := by decide +kernel
theorem d10_like_10 : decode (mm_cc M10_like) 10 = .ok (.getfield 19, 3) := by decide +kernel
theorem d10_like_13 : decode (mm_cc M10_like) 13 = .ok (.iload_n 1, 1) := by decide +kernel
theorem d10_like_14 : decode (mm_cc M10_like) 14 = .ok (.iload_n 2, 1) := by decide +kernel
theorem d10_like_15 : decode (mm_cc M10_like) 15 = .ok (.invokevirtual 276, 3) := by decide +kernel
theorem d10_like_18 : decode (mm_cc M10_like) 18 = .ok (.goto 5, 3) := by decide +kernel
theorem d10_like_21 : decode (mm_cc M10_like) 21 = .ok (.ldc 220, 2) := by decide +kernel
theorem d10_like_23 : decode (mm_cc M10_like) 23 = .ok (.ireturn, 1) := by decide +kernel
theorem d10_make_0 : decode (mm_cc M10_make) 0 = .ok (.aload_n 0, 1) := by decide +kernel
theorem d10_make_1 : decode (mm_cc M10_make) 1 = .ok (.getfield 19, 3) := by decide +kernel
theorem d10_make_4 : decode (mm_cc M10_make) 4 = .ok (.iload_n 1, 1) := by decide +kernel
theorem d10_make_5 : decode (mm_cc M10_make) 5 = .ok (.invokevirtual 216, 3) := by decide +kernel
theorem d10_make_8 : decode (mm_cc M10_make) 8 = .ok (.ifCond .ne 6, 3) := by decide +kernel
theorem d10_make_11 : decode (mm_cc M10_make) 11 = .ok (.ldc 220, 2) := by decide +kernel
theorem d10_make_13 : decode (mm_cc M10_make) 13 = .ok (.ireturn, 1) := by decide +kernel
theorem d10_make_14 : decode (mm_cc M10_make) 14 = .ok (.iload_n 2, 1) := by decide +kernel
theorem d10_make_15 : decode (mm_cc M10_make) 15 = .ok (.iconst 1, 1) := by decide +kernel
theorem d10_make_16 : decode (mm_cc M10_make) 16 = .ok (.bipush 100, 2) := by decide +kernel
theorem d10_make_18 : decode (mm_cc M10_make) 18 = .ok (.invokestatic 120, 3) := by decide +kernel
theorem d10_make_21 : decode (mm_cc M10_make) 21 = .ok (.ifCond .ne 6, 3) := by decide +kernel
theorem d10_make_24 : decode (mm_cc M10_make) 24 = .ok (.ldc 124, 2) := by decide +kernel
theorem d10_make_26 : decode (mm_cc M10_make) 26 = .ok (.ireturn, 1) := by decide +kernel
theorem d10_make_27 : decode (mm_cc M10_make) 27 = .ok (.aload_n 0, 1) := by decide +kernel
theorem d10_make_28 : decode (mm_cc M10_make) 28 = .ok (.getfield 73, 3) := by decide +kernel
theorem d10_make_31 : decode (mm_cc M10_make) 31 = .ok (.getfield 206, 3) := by decide +kernel
theorem d10_make_34 : decode (mm_cc M10_make) 34 = .ok (.bipush 12, 2) := by decide +kernel
theorem d10_make_36 : decode (mm_cc M10_make) 36 = .ok (.if_icmp .ge 15, 3) := by decide +kernel
theorem d10_make_39 : decode (mm_cc M10_make) 39 = .ok (.aload_n 0, 1) := by decide +kernel
theorem d10_make_40 : decode (mm_cc M10_make) 40 = .ok (.getfield 73, 3) := by decide +kernel
theorem d10_make_43 : decode (mm_cc M10_make) 43 = .ok (.iload_n 1, 1) := by decide +kernel
theorem d10_make_44 : decode (mm_cc M10_make) 44 = .ok (.iload_n 2, 1) := by decide +kernel
theorem d10_make_45 : decode (mm_cc M10_make) 45 = .ok (.invokevirtual 330, 3) := by decide +kernel
theorem d10_make_48 : decode (mm_cc M10_make) 48 = .ok (.goto 5, 3) := by decide +kernel
theorem d10_make_51 : decode (mm_cc M10_make) 51 = .ok (.ldc 128, 2) := by decide +kernel
theorem d10_make_53 : decode (mm_cc M10_make) 53 = .ok (.ireturn, 1) := by decide +kernel
theorem d10_person_0 : decode (mm_cc M10_person) 0 = .ok (.aload_n 0, 1) := by decide +kernel
theorem d10_person_1 : decode (mm_cc M10_person) 1 = .ok (.getfield 19, 3) := by decide +kernel
theorem d10_person_4 : decode (mm_cc M10_person) 4 = .ok (.iload_n 1, 1) := by decide +kernel
theorem d10_person_5 : decode (mm_cc M10_person) 5 = .ok (.invokevirtual 241, 3) := by decide +kernel
theorem d10_person_8 : decode (mm_cc M10_person) 8 = .ok (.ifCond .ne 6, 3) := by decide +kernel
theorem d10_person_11 : decode (mm_cc M10_person) 11 = .ok (.ldc 220, 2) := by decide +kernel
theorem d10_person_13 : decode (mm_cc M10_person) 13 = .ok (.ireturn, 1) := by decide +kernel
theorem d10_person_14 : decode (mm_cc M10_person) 14 = .ok (.iload_n 2, 1) := by decide +kernel
theorem d10_person_15 : decode (mm_cc M10_person) 15 = .ok (.tableswitch 154 0 7 #[45, 57, 69, 81, 93, 102, 114, 134], 45) := by decide +kernel
theorem d10_person_60 : decode (mm_cc M10_person) 60 = .ok (.aload_n 0, 1) := by decide +kernel
theorem d10_person_61 : decode (mm_cc M10_person) 61 = .ok (.getfield 42, 3) := by decide +kernel
theorem d10_person_64 : decode (mm_cc M10_person) 64 = .ok (.getfield 244, 3) := by decide +kernel
theorem d10_person_67 : decode (mm_cc M10_person) 67 = .ok (.iload_n 1, 1) := by decide +kernel
theorem d10_person_68 : decode (mm_cc M10_person) 68 = .ok (.invokevirtual 224, 3) := by decide +kernel
theorem d10_person_71 : decode (mm_cc M10_person) 71 = .ok (.ireturn, 1) := by decide +kernel
theorem d10_person_72 : decode (mm_cc M10_person) 72 = .ok (.aload_n 0, 1) := by decide +kernel
theorem d10_person_73 : decode (mm_cc M10_person) 73 = .ok (.getfield 42, 3) := by decide +kernel
theorem d10_person_76 : decode (mm_cc M10_person) 76 = .ok (.getfield 247, 3) := by decide +kernel
theorem d10_person_79 : decode (mm_cc M10_person) 79 = .ok (.iload_n 1, 1) := by decide +kernel
theorem d10_person_80 : decode (mm_cc M10_person) 80 = .ok (.invokevirtual 224, 3) := by decide +kernel
theorem d10_person_83 : decode (mm_cc M10_person) 83 = .ok (.ireturn, 1) := by decide +kernel
theorem d10_person_84 : decode (mm_cc M10_person) 84 = .ok (.aload_n 0, 1) := by decide +kernel
theorem d10_person_85 : decode (mm_cc M10_person) 85 = .ok (.getfield 42, 3) := by decide +kernel
theorem d10_person_88 : decode (mm_cc M10_person) 88 = .ok (.getfield 250, 3) := by decide +kernel
theorem d10_person_91 : decode (mm_cc M10_person) 91 = .ok (.iload_n 1, 1) := by decide +kernel
theorem d10_person_92 : decode (mm_cc M10_person) 92 = .ok (.invokevirtual 224, 3) := by decide +kernel
theorem d10_person_95 : decode (mm_cc M10_person) 95 = .ok (.ireturn, 1) := by decide +kernel
theorem d10_person_96 : decode (mm_cc M10_person) 96 = .ok (.aload_n 0, 1) := by decide +kernel
theorem d10_person_97 : decode (mm_cc M10_person) 97 = .ok (.getfield 42, 3) := by decide +kernel
theorem d10_person_100 : decode (mm_cc M10_person) 100 = .ok (.getfield 253, 3) := by decide +kernel
theorem d10_person_103 : decode (mm_cc M10_person) 103 = .ok (.iload_n 1, 1) := by decide +kernel
theorem d10_person_104 : decode (mm_cc M10_person) 104 = .ok (.invokevirtual 224, 3) := by decide +kernel
theorem d10_person_107 : decode (mm_cc M10_person) 107 = .ok (.ireturn, 1) := by decide +kernel
theorem d10_person_108 : decode (mm_cc M10_person) 108 = .ok (.aload_n 0, 1) := by decide +kernel
theorem d10_person_109 : decode (mm_cc M10_person) 109 = .ok (.getfield 42, 3) := by decide +kernel
theorem d10_person_112 : decode (mm_cc M10_person) 112 = .ok (.iload_n 1, 1) := by decide +kernel
theorem d10_person_113 : decode (mm_cc M10_person) 113 = .ok (.invokevirtual 256, 3) := by decide +kernel
theorem d10_person_116 : decode (mm_cc M10_person) 116 = .ok (.ireturn, 1) := by decide +kernel
theorem d10_person_117 : decode (mm_cc M10_person) 117 = .ok (.aload_n 0, 1) := by decide +kernel
theorem d10_person_118 : decode (mm_cc M10_person) 118 = .ok (.getfield 42, 3) := by decide +kernel
theorem d10_person_121 : decode (mm_cc M10_person) 121 = .ok (.getfield 259, 3) := by decide +kernel
theorem d10_person_124 : decode (mm_cc M10_person) 124 = .ok (.iload_n 1, 1) := by decide +kernel
theorem d10_person_125 : decode (mm_cc M10_person) 125 = .ok (.invokevirtual 224, 3) := by decide +kernel
theorem d10_person_128 : decode (mm_cc M10_person) 128 = .ok (.ireturn, 1) := by decide +kernel
theorem d10_person_129 : decode (mm_cc M10_person) 129 = .ok (.aload_n 0, 1) := by decide +kernel
theorem d10_person_130 : decode (mm_cc M10_person) 130 = .ok (.getfield 42, 3) := by decide +kernel
theorem d10_person_133 : decode (mm_cc M10_person) 133 = .ok (.getfield 262, 3) := by decide +kernel
theorem d10_person_136 : decode (mm_cc M10_person) 136 = .ok (.iload_n 1, 1) := by decide +kernel
theorem d10_person_137 : decode (mm_cc M10_person) 137 = .ok (.invokestatic 263, 3) := by decide +kernel
theorem d10_person_140 : decode (mm_cc M10_person) 140 = .ok (.ifCond .eq 7, 3) := by decide +kernel
theorem d10_person_143 : decode (mm_cc M10_person) 143 = .ok (.iconst 1, 1) := by decide +kernel
theorem d10_person_144 : decode (mm_cc M10_person) 144 = .ok (.goto 4, 3) := by decide +kernel
theorem d10_person_147 : decode (mm_cc M10_person) 147 = .ok (.iconst 0, 1) := by decide +kernel
theorem d10_person_148 : decode (mm_cc M10_person) 148 = .ok (.ireturn, 1) := by decide +kernel
theorem d10_person_149 : decode (mm_cc M10_person) 149 = .ok (.aload_n 0, 1) := by decide +kernel
theorem d10_person_150 : decode (mm_cc M10_person) 150 = .ok (.getfield 42, 3) := by decide +kernel
theorem d10_person_153 : decode (mm_cc M10_person) 153 = .ok (.getfield 267, 3) := by decide +kernel
theorem d10_person_156 : decode (mm_cc M10_person) 156 = .ok (.iload_n 1, 1) := by decide +kernel
theorem d10_person_157 : decode (mm_cc M10_person) 157 = .ok (.invokestatic 263, 3) := by decide +kernel
theorem d10_person_160 : decode (mm_cc M10_person) 160 = .ok (.ifCond .eq 7, 3) := by decide +kernel
theorem d10_person_163 : decode (mm_cc M10_person) 163 = .ok (.iconst 1, 1) := by decide +kernel
theorem d10_person_164 : decode (mm_cc M10_person) 164 = .ok (.goto 4, 3) := by decide +kernel
theorem d10_person_167 : decode (mm_cc M10_person) 167 = .ok (.iconst 0, 1) := by decide +kernel
theorem d10_person_168 : decode (mm_cc M10_person) 168 = .ok (.ireturn, 1) := by decide +kernel
theorem d10_person_169 : decode (mm_cc M10_person) 169 = .ok (.ldc 124, 2) := by decide +kernel
theorem d10_person_171 : decode (mm_cc M10_person) 171 = .ok (.ireturn, 1) := by decide +kernel
theorem d10_practise_0 : decode (mm_cc M10_practise) 0 = .ok (.aload_n 0, 1) := by decide +kernel
theorem d10_practise_1 : decode (mm_cc M10_practise) 1 = .ok (.iload_n 1, 1) := by decide +kernel
theorem d10_practise_2 : decode (mm_cc M10_practise) 2 = .ok (.iload_n 2, 1) := by decide +kernel
theorem d10_practise_3 : decode (mm_cc M10_practise) 3 = .ok (.invokevirtual 270, 3) := by decide +kernel
theorem d10_practise_6 : decode (mm_cc M10_practise) 6 = .ok (.ifCond .ne 6, 3) := by decide +kernel
theorem d10_practise_9 : decode (mm_cc M10_practise) 9 = .ok (.ldc 220, 2) := by decide +kernel
theorem d10_practise_11 : decode (mm_cc M10_practise) 11 = .ok (.ireturn, 1) := by decide +kernel
theorem d10_practise_12 : decode (mm_cc M10_practise) 12 = .ok (.aload_n 0, 1) := by decide +kernel
theorem d10_practise_13 : decode (mm_cc M10_practise) 13 = .ok (.getfield 42, 3) := by decide +kernel
theorem d10_practise_16 : decode (mm_cc M10_practise) 16 = .ok (.iload_n 1, 1) := by decide +kernel
theorem d10_practise_17 : decode (mm_cc M10_practise) 17 = .ok (.iload_n 2, 1) := by decide +kernel
theorem d10_practise_18 : decode (mm_cc M10_practise) 18 = .ok (.invokevirtual 283, 3) := by decide +kernel
theorem d10_practise_21 : decode (mm_cc M10_practise) 21 = .ok (.ifCond .ne 6, 3) := by decide +kernel
theorem d10_practise_24 : decode (mm_cc M10_practise) 24 = .ok (.ldc 167, 2) := by decide +kernel
theorem d10_practise_26 : decode (mm_cc M10_practise) 26 = .ok (.ireturn, 1) := by decide +kernel
theorem d10_practise_27 : decode (mm_cc M10_practise) 27 = .ok (.aload_n 0, 1) := by decide +kernel
theorem d10_practise_28 : decode (mm_cc M10_practise) 28 = .ok (.getfield 42, 3) := by decide +kernel
theorem d10_practise_31 : decode (mm_cc M10_practise) 31 = .ok (.getfield 247, 3) := by decide +kernel
theorem d10_practise_34 : decode (mm_cc M10_practise) 34 = .ok (.iload_n 1, 1) := by decide +kernel
theorem d10_practise_35 : decode (mm_cc M10_practise) 35 = .ok (.invokevirtual 224, 3) := by decide +kernel
theorem d10_practise_38 : decode (mm_cc M10_practise) 38 = .ok (.istore_n 3, 1) := by decide +kernel
theorem d10_practise_39 : decode (mm_cc M10_practise) 39 = .ok (.aload_n 0, 1) := by decide +kernel
theorem d10_practise_40 : decode (mm_cc M10_practise) 40 = .ok (.getfield 42, 3) := by decide +kernel
theorem d10_practise_43 : decode (mm_cc M10_practise) 43 = .ok (.getfield 247, 3) := by decide +kernel
theorem d10_practise_46 : decode (mm_cc M10_practise) 46 = .ok (.iload_n 1, 1) := by decide +kernel
theorem d10_practise_47 : decode (mm_cc M10_practise) 47 = .ok (.iload_n 2, 1) := by decide +kernel
theorem d10_practise_48 : decode (mm_cc M10_practise) 48 = .ok (.invokevirtual 286, 3) := by decide +kernel
theorem d10_practise_51 : decode (mm_cc M10_practise) 51 = .ok (.iload_n 3, 1) := by decide +kernel
theorem d10_practise_52 : decode (mm_cc M10_practise) 52 = .ok (.ireturn, 1) := by decide +kernel
theorem d10_skill_0 : decode (mm_cc M10_skill) 0 = .ok (.aload_n 0, 1) := by decide +kernel
theorem d10_skill_1 : decode (mm_cc M10_skill) 1 = .ok (.iload_n 1, 1) := by decide +kernel
theorem d10_skill_2 : decode (mm_cc M10_skill) 2 = .ok (.iload_n 2, 1) := by decide +kernel
theorem d10_skill_3 : decode (mm_cc M10_skill) 3 = .ok (.invokevirtual 270, 3) := by decide +kernel
theorem d10_skill_6 : decode (mm_cc M10_skill) 6 = .ok (.ifCond .eq 15, 3) := by decide +kernel
theorem d10_skill_9 : decode (mm_cc M10_skill) 9 = .ok (.aload_n 0, 1) := by decide +kernel
theorem d10_skill_10 : decode (mm_cc M10_skill) 10 = .ok (.getfield 42, 3) := by decide +kernel
theorem d10_skill_13 : decode (mm_cc M10_skill) 13 = .ok (.iload_n 1, 1) := by decide +kernel
theorem d10_skill_14 : decode (mm_cc M10_skill) 14 = .ok (.iload_n 2, 1) := by decide +kernel
theorem d10_skill_15 : decode (mm_cc M10_skill) 15 = .ok (.invokevirtual 273, 3) := by decide +kernel
theorem d10_skill_18 : decode (mm_cc M10_skill) 18 = .ok (.goto 5, 3) := by decide +kernel
theorem d10_skill_21 : decode (mm_cc M10_skill) 21 = .ok (.ldc 220, 2) := by decide +kernel
theorem d10_skill_23 : decode (mm_cc M10_skill) 23 = .ok (.ireturn, 1) := by decide +kernel
theorem d10_startAnew_0 : decode (mm_cc M10_startAnew) 0 = .ok (.aload_n 0, 1) := by decide +kernel
theorem d10_startAnew_1 : decode (mm_cc M10_startAnew) 1 = .ok (.getfield 42, 3) := by decide +kernel
theorem d10_startAnew_4 : decode (mm_cc M10_startAnew) 4 = .ok (.getfield 359, 3) := by decide +kernel
theorem d10_startAnew_7 : decode (mm_cc M10_startAnew) 7 = .ok (.istore_n 1, 1) := by decide +kernel
theorem d10_startAnew_8 : decode (mm_cc M10_startAnew) 8 = .ok (.aload_n 0, 1) := by decide +kernel
theorem d10_startAnew_9 : decode (mm_cc M10_startAnew) 9 = .ok (.getfield 42, 3) := by decide +kernel
theorem d10_startAnew_12 : decode (mm_cc M10_startAnew) 12 = .ok (.aload_n 0, 1) := by decide +kernel
theorem d10_startAnew_13 : decode (mm_cc M10_startAnew) 13 = .ok (.getfield 46, 3) := by decide +kernel
theorem d10_startAnew_16 : decode (mm_cc M10_startAnew) 16 = .ok (.invokevirtual 154, 3) := by decide +kernel
theorem d10_startAnew_19 : decode (mm_cc M10_startAnew) 19 = .ok (.aload_n 0, 1) := by decide +kernel
theorem d10_startAnew_20 : decode (mm_cc M10_startAnew) 20 = .ok (.getfield 42, 3) := by decide +kernel
theorem d10_startAnew_23 : decode (mm_cc M10_startAnew) 23 = .ok (.iload_n 1, 1) := by decide +kernel
theorem d10_startAnew_24 : decode (mm_cc M10_startAnew) 24 = .ok (.putfield 359, 3) := by decide +kernel
theorem d10_startAnew_27 : decode (mm_cc M10_startAnew) 27 = .ok (.return_, 1) := by decide +kernel
theorem d10_write_0 : decode (mm_cc M10_write) 0 = .ok (.aload_n 0, 1) := by decide +kernel
theorem d10_write_1 : decode (mm_cc M10_write) 1 = .ok (.iload_n 1, 1) := by decide +kernel
theorem d10_write_2 : decode (mm_cc M10_write) 2 = .ok (.iload_n 2, 1) := by decide +kernel
theorem d10_write_3 : decode (mm_cc M10_write) 3 = .ok (.invokevirtual 270, 3) := by decide +kernel
theorem d10_write_6 : decode (mm_cc M10_write) 6 = .ok (.ifCond .ne 6, 3) := by decide +kernel
theorem d10_write_9 : decode (mm_cc M10_write) 9 = .ok (.ldc 220, 2) := by decide +kernel
theorem d10_write_11 : decode (mm_cc M10_write) 11 = .ok (.ireturn, 1) := by decide +kernel
theorem d10_write_12 : decode (mm_cc M10_write) 12 = .ok (.iload_n 3, 1) := by decide +kernel
theorem d10_write_13 : decode (mm_cc M10_write) 13 = .ok (.iconst 0, 1) := by decide +kernel
theorem d10_write_14 : decode (mm_cc M10_write) 14 = .ok (.bipush 100, 2) := by decide +kernel
theorem d10_write_16 : decode (mm_cc M10_write) 16 = .ok (.invokestatic 120, 3) := by decide +kernel
theorem d10_write_19 : decode (mm_cc M10_write) 19 = .ok (.ifCond .ne 6, 3) := by decide +kernel
theorem d10_write_22 : decode (mm_cc M10_write) 22 = .ok (.ldc 124, 2) := by decide +kernel
theorem d10_write_24 : decode (mm_cc M10_write) 24 = .ok (.ireturn, 1) := by decide +kernel
theorem d10_write_25 : decode (mm_cc M10_write) 25 = .ok (.aload_n 0, 1) := by decide +kernel
theorem d10_write_26 : decode (mm_cc M10_write) 26 = .ok (.getfield 73, 3) := by decide +kernel
theorem d10_write_29 : decode (mm_cc M10_write) 29 = .ok (.getfield 209, 3) := by decide +kernel
theorem d10_write_32 : decode (mm_cc M10_write) 32 = .ok (.bipush 40, 2) := by decide +kernel
theorem d10_write_34 : decode (mm_cc M10_write) 34 = .ok (.if_icmp .ge 16, 3) := by decide +kernel
theorem d10_write_37 : decode (mm_cc M10_write) 37 = .ok (.aload_n 0, 1) := by decide +kernel
theorem d10_write_38 : decode (mm_cc M10_write) 38 = .ok (.getfield 73, 3) := by decide +kernel
theorem d10_write_41 : decode (mm_cc M10_write) 41 = .ok (.iload_n 1, 1) := by decide +kernel
theorem d10_write_42 : decode (mm_cc M10_write) 42 = .ok (.iload_n 2, 1) := by decide +kernel
theorem d10_write_43 : decode (mm_cc M10_write) 43 = .ok (.iload_n 3, 1) := by decide +kernel
theorem d10_write_44 : decode (mm_cc M10_write) 44 = .ok (.invokevirtual 351, 3) := by decide +kernel
theorem d10_write_47 : decode (mm_cc M10_write) 47 = .ok (.goto 5, 3) := by decide +kernel
theorem d10_write_50 : decode (mm_cc M10_write) 50 = .ok (.ldc 128, 2) := by decide +kernel
theorem d10_write_52 : decode (mm_cc M10_write) 52 = .ok (.ireturn, 1) := by decide +kernel
theorem d11_begin_0 : decode (mm_cc M11_begin) 0 = .ok (.aload_n 0, 1) := by decide +kernel
theorem d11_begin_1 : decode (mm_cc M11_begin) 1 = .ok (.getfield 147, 3) := by decide +kernel
theorem d11_begin_4 : decode (mm_cc M11_begin) 4 = .ok (.istore_n 1, 1) := by decide +kernel
theorem d11_begin_5 : decode (mm_cc M11_begin) 5 = .ok (.aload_n 0, 1) := by decide +kernel
theorem d11_begin_6 : decode (mm_cc M11_begin) 6 = .ok (.iconst 0, 1) := by decide +kernel
theorem d11_begin_7 : decode (mm_cc M11_begin) 7 = .ok (.putfield 147, 3) := by decide +kernel
theorem d11_begin_10 : decode (mm_cc M11_begin) 10 = .ok (.iconst 0, 1) := by decide +kernel
theorem d11_begin_11 : decode (mm_cc M11_begin) 11 = .ok (.istore_n 2, 1) := by decide +kernel
theorem d11_begin_12 : decode (mm_cc M11_begin) 12 = .ok (.iload_n 2, 1) := by decide +kernel
theorem d11_begin_13 : decode (mm_cc M11_begin) 13 = .ok (.bipush 8, 2) := by decide +kernel
theorem d11_begin_15 : decode (mm_cc M11_begin) 15 = .ok (.if_icmp .ge 153, 3) := by decide +kernel
theorem d11_begin_18 : decode (mm_cc M11_begin) 18 = .ok (.aload_n 0, 1) := by decide +kernel
theorem d11_begin_19 : decode (mm_cc M11_begin) 19 = .ok (.getfield 38, 3) := by decide +kernel
theorem d11_begin_22 : decode (mm_cc M11_begin) 22 = .ok (.iload_n 2, 1) := by decide +kernel
theorem d11_begin_23 : decode (mm_cc M11_begin) 23 = .ok (.aload_n 0, 1) := by decide +kernel
theorem d11_begin_24 : decode (mm_cc M11_begin) 24 = .ok (.getfield 13, 3) := by decide +kernel
theorem d11_begin_27 : decode (mm_cc M11_begin) 27 = .ok (.iload_n 2, 1) := by decide +kernel
theorem d11_begin_28 : decode (mm_cc M11_begin) 28 = .ok (.iaload, 1) := by decide +kernel
theorem d11_begin_29 : decode (mm_cc M11_begin) 29 = .ok (.iastore, 1) := by decide +kernel
theorem d11_begin_30 : decode (mm_cc M11_begin) 30 = .ok (.aload_n 0, 1) := by decide +kernel
theorem d11_begin_31 : decode (mm_cc M11_begin) 31 = .ok (.getfield 41, 3) := by decide +kernel
theorem d11_begin_34 : decode (mm_cc M11_begin) 34 = .ok (.iload_n 2, 1) := by decide +kernel
theorem d11_begin_35 : decode (mm_cc M11_begin) 35 = .ok (.iload_n 2, 1) := by decide +kernel
theorem d11_begin_36 : decode (mm_cc M11_begin) 36 = .ok (.aload_n 0, 1) := by decide +kernel
theorem d11_begin_37 : decode (mm_cc M11_begin) 37 = .ok (.getfield 140, 3) := by decide +kernel
theorem d11_begin_40 : decode (mm_cc M11_begin) 40 = .ok (.if_icmp .ge 7, 3) := by decide +kernel
theorem d11_begin_43 : decode (mm_cc M11_begin) 43 = .ok (.iconst 1, 1) := by decide +kernel
theorem d11_begin_44 : decode (mm_cc M11_begin) 44 = .ok (.goto 4, 3) := by decide +kernel
theorem d11_begin_47 : decode (mm_cc M11_begin) 47 = .ok (.iconst 0, 1) := by decide +kernel
theorem d11_begin_48 : decode (mm_cc M11_begin) 48 = .ok (.bastore, 1) := by decide +kernel
theorem d11_begin_49 : decode (mm_cc M11_begin) 49 = .ok (.iconst 0, 1) := by decide +kernel
theorem d11_begin_50 : decode (mm_cc M11_begin) 50 = .ok (.istore_n 3, 1) := by decide +kernel
theorem d11_begin_51 : decode (mm_cc M11_begin) 51 = .ok (.iload_n 3, 1) := by decide +kernel
theorem d11_begin_52 : decode (mm_cc M11_begin) 52 = .ok (.bipush 6, 2) := by decide +kernel
theorem d11_begin_54 : decode (mm_cc M11_begin) 54 = .ok (.if_icmp .ge 55, 3) := by decide +kernel
theorem d11_begin_57 : decode (mm_cc M11_begin) 57 = .ok (.aload_n 0, 1) := by decide +kernel
theorem d11_begin_58 : decode (mm_cc M11_begin) 58 = .ok (.getfield 45, 3) := by decide +kernel
theorem d11_begin_61 : decode (mm_cc M11_begin) 61 = .ok (.bipush 6, 2) := by decide +kernel
theorem d11_begin_63 : decode (mm_cc M11_begin) 63 = .ok (.iload_n 2, 1) := by decide +kernel
theorem d11_begin_64 : decode (mm_cc M11_begin) 64 = .ok (.imul, 1) := by decide +kernel
theorem d11_begin_65 : decode (mm_cc M11_begin) 65 = .ok (.iload_n 3, 1) := by decide +kernel
theorem d11_begin_66 : decode (mm_cc M11_begin) 66 = .ok (.iadd, 1) := by decide +kernel
theorem d11_begin_67 : decode (mm_cc M11_begin) 67 = .ok (.iload_n 2, 1) := by decide +kernel
theorem d11_begin_68 : decode (mm_cc M11_begin) 68 = .ok (.aload_n 0, 1) := by decide +kernel
theorem d11_begin_69 : decode (mm_cc M11_begin) 69 = .ok (.getfield 140, 3) := by decide +kernel
theorem d11_begin_72 : decode (mm_cc M11_begin) 72 = .ok (.if_icmp .ge 17, 3) := by decide +kernel
theorem d11_begin_75 : decode (mm_cc M11_begin) 75 = .ok (.aload_n 0, 1) := by decide +kernel
theorem d11_begin_76 : decode (mm_cc M11_begin) 76 = .ok (.getfield 16, 3) := by decide +kernel
theorem d11_begin_79 : decode (mm_cc M11_begin) 79 = .ok (.bipush 6, 2) := by decide +kernel
theorem d11_begin_81 : decode (mm_cc M11_begin) 81 = .ok (.iload_n 2, 1) := by decide +kernel
theorem d11_begin_82 : decode (mm_cc M11_begin) 82 = .ok (.imul, 1) := by decide +kernel
theorem d11_begin_83 : decode (mm_cc M11_begin) 83 = .ok (.iload_n 3, 1) := by decide +kernel
theorem d11_begin_84 : decode (mm_cc M11_begin) 84 = .ok (.iadd, 1) := by decide +kernel
theorem d11_begin_85 : decode (mm_cc M11_begin) 85 = .ok (.iaload, 1) := by decide +kernel
theorem d11_begin_86 : decode (mm_cc M11_begin) 86 = .ok (.goto 4, 3) := by decide +kernel
theorem d11_begin_89 : decode (mm_cc M11_begin) 89 = .ok (.iconst 0, 1) := by decide +kernel
theorem d11_begin_90 : decode (mm_cc M11_begin) 90 = .ok (.iastore, 1) := by decide +kernel
theorem d11_begin_91 : decode (mm_cc M11_begin) 91 = .ok (.aload_n 0, 1) := by decide +kernel
theorem d11_begin_92 : decode (mm_cc M11_begin) 92 = .ok (.getfield 48, 3) := by decide +kernel
theorem d11_begin_95 : decode (mm_cc M11_begin) 95 = .ok (.bipush 6, 2) := by decide +kernel
theorem d11_begin_97 : decode (mm_cc M11_begin) 97 = .ok (.iload_n 2, 1) := by decide +kernel
theorem d11_begin_98 : decode (mm_cc M11_begin) 98 = .ok (.imul, 1) := by decide +kernel
theorem d11_begin_99 : decode (mm_cc M11_begin) 99 = .ok (.iload_n 3, 1) := by decide +kernel
theorem d11_begin_100 : decode (mm_cc M11_begin) 100 = .ok (.iadd, 1) := by decide +kernel
theorem d11_begin_101 : decode (mm_cc M11_begin) 101 = .ok (.iconst (-1), 1) := by decide +kernel
theorem d11_begin_102 : decode (mm_cc M11_begin) 102 = .ok (.iastore, 1) := by decide +kernel
theorem d11_begin_103 : decode (mm_cc M11_begin) 103 = .ok (.iinc 3 1, 3) := by decide +kernel
theorem d11_begin_106 : decode (mm_cc M11_begin) 106 = .ok (.goto (-55), 3) := by decide +kernel
theorem d11_begin_109 : decode (mm_cc M11_begin) 109 = .ok (.aload_n 0, 1) := by decide +kernel
theorem d11_begin_110 : decode (mm_cc M11_begin) 110 = .ok (.getfield 51, 3) := by decide +kernel
theorem d11_begin_113 : decode (mm_cc M11_begin) 113 = .ok (.iload_n 2, 1) := by decide +kernel
theorem d11_begin_114 : decode (mm_cc M11_begin) 114 = .ok (.aload_n 0, 1) := by decide +kernel
theorem d11_begin_115 : decode (mm_cc M11_begin) 115 = .ok (.iload_n 2, 1) := by decide +kernel
theorem d11_begin_116 : decode (mm_cc M11_begin) 116 = .ok (.invokevirtual 150, 3) := by decide +kernel
theorem d11_begin_119 : decode (mm_cc M11_begin) 119 = .ok (.iastore, 1) := by decide +kernel
theorem d11_begin_120 : decode (mm_cc M11_begin) 120 = .ok (.aload_n 0, 1) := by decide +kernel
theorem d11_begin_121 : decode (mm_cc M11_begin) 121 = .ok (.getfield 54, 3) := by decide +kernel
theorem d11_begin_124 : decode (mm_cc M11_begin) 124 = .ok (.iload_n 2, 1) := by decide +kernel
theorem d11_begin_125 : decode (mm_cc M11_begin) 125 = .ok (.iconst (-1), 1) := by decide +kernel
theorem d11_begin_126 : decode (mm_cc M11_begin) 126 = .ok (.iastore, 1) := by decide +kernel
theorem d11_begin_127 : decode (mm_cc M11_begin) 127 = .ok (.aload_n 0, 1) := by decide +kernel
theorem d11_begin_128 : decode (mm_cc M11_begin) 128 = .ok (.getfield 57, 3) := by decide +kernel
theorem d11_begin_131 : decode (mm_cc M11_begin) 131 = .ok (.iload_n 2, 1) := by decide +kernel
theorem d11_begin_132 : decode (mm_cc M11_begin) 132 = .ok (.iconst 0, 1) := by decide +kernel
theorem d11_begin_133 : decode (mm_cc M11_begin) 133 = .ok (.iastore, 1) := by decide +kernel
theorem d11_begin_134 : decode (mm_cc M11_begin) 134 = .ok (.aload_n 0, 1) := by decide +kernel
theorem d11_begin_135 : decode (mm_cc M11_begin) 135 = .ok (.getfield 60, 3) := by decide +kernel
theorem d11_begin_138 : decode (mm_cc M11_begin) 138 = .ok (.iload_n 2, 1) := by decide +kernel
theorem d11_begin_139 : decode (mm_cc M11_begin) 139 = .ok (.iconst (-1), 1) := by decide +kernel
theorem d11_begin_140 : decode (mm_cc M11_begin) 140 = .ok (.iastore, 1) := by decide +kernel
theorem d11_begin_141 : decode (mm_cc M11_begin) 141 = .ok (.aload_n 0, 1) := by decide +kernel
theorem d11_begin_142 : decode (mm_cc M11_begin) 142 = .ok (.getfield 63, 3) := by decide +kernel
theorem d11_begin_145 : decode (mm_cc M11_begin) 145 = .ok (.iload_n 2, 1) := by decide +kernel
theorem d11_begin_146 : decode (mm_cc M11_begin) 146 = .ok (.iconst 0, 1) := by decide +kernel
theorem d11_begin_147 : decode (mm_cc M11_begin) 147 = .ok (.iastore, 1) := by decide +kernel
theorem d11_begin_148 : decode (mm_cc M11_begin) 148 = .ok (.aload_n 0, 1) := by decide +kernel
theorem d11_begin_149 : decode (mm_cc M11_begin) 149 = .ok (.getfield 66, 3) := by decide +kernel
theorem d11_begin_152 : decode (mm_cc M11_begin) 152 = .ok (.iload_n 2, 1) := by decide +kernel
theorem d11_begin_153 : decode (mm_cc M11_begin) 153 = .ok (.iconst 0, 1) := by decide +kernel
theorem d11_begin_154 : decode (mm_cc M11_begin) 154 = .ok (.bastore, 1) := by decide +kernel
theorem d11_begin_155 : decode (mm_cc M11_begin) 155 = .ok (.aload_n 0, 1) := by decide +kernel
theorem d11_begin_156 : decode (mm_cc M11_begin) 156 = .ok (.getfield 69, 3) := by decide +kernel
theorem d11_begin_159 : decode (mm_cc M11_begin) 159 = .ok (.iload_n 2, 1) := by decide +kernel
theorem d11_begin_160 : decode (mm_cc M11_begin) 160 = .ok (.iconst 0, 1) := by decide +kernel
theorem d11_begin_161 : decode (mm_cc M11_begin) 161 = .ok (.bastore, 1) := by decide +kernel
theorem d11_begin_162 : decode (mm_cc M11_begin) 162 = .ok (.iinc 2 1, 3) := by decide +kernel
theorem d11_begin_165 : decode (mm_cc M11_begin) 165 = .ok (.goto (-153), 3) := by decide +kernel
theorem d11_begin_168 : decode (mm_cc M11_begin) 168 = .ok (.iload_n 1, 1) := by decide +kernel
theorem d11_begin_169 : decode (mm_cc M11_begin) 169 = .ok (.ireturn, 1) := by decide +kernel
theorem d11_byGiving_0 : decode (mm_cc M11_byGiving) 0 = .ok (.iload_n 3, 1) := by decide +kernel
theorem d11_byGiving_1 : decode (mm_cc M11_byGiving) 1 = .ok (.ifCond .ge 18, 3) := by decide +kernel
theorem d11_byGiving_4 : decode (mm_cc M11_byGiving) 4 = .ok (.aload_n 0, 1) := by decide +kernel
theorem d11_byGiving_5 : decode (mm_cc M11_byGiving) 5 = .ok (.getfield 96, 3) := by decide +kernel
theorem d11_byGiving_8 : decode (mm_cc M11_byGiving) 8 = .ok (.sipush 256, 3) := by decide +kernel
theorem d11_byGiving_11 : decode (mm_cc M11_byGiving) 11 = .ok (.iload_n 1, 1) := by decide +kernel
theorem d11_byGiving_12 : decode (mm_cc M11_byGiving) 12 = .ok (.iconst 1, 1) := by decide +kernel
theorem d11_byGiving_13 : decode (mm_cc M11_byGiving) 13 = .ok (.iadd, 1) := by decide +kernel
theorem d11_byGiving_14 : decode (mm_cc M11_byGiving) 14 = .ok (.imul, 1) := by decide +kernel
theorem d11_byGiving_15 : decode (mm_cc M11_byGiving) 15 = .ok (.iload_n 2, 1) := by decide +kernel
theorem d11_byGiving_16 : decode (mm_cc M11_byGiving) 16 = .ok (.iadd, 1) := by decide +kernel
theorem d11_byGiving_17 : decode (mm_cc M11_byGiving) 17 = .ok (.iaload, 1) := by decide +kernel
theorem d11_byGiving_18 : decode (mm_cc M11_byGiving) 18 = .ok (.ireturn, 1) := by decide +kernel
theorem d11_byGiving_19 : decode (mm_cc M11_byGiving) 19 = .ok (.aload_n 0, 1) := by decide +kernel
theorem d11_byGiving_20 : decode (mm_cc M11_byGiving) 20 = .ok (.getfield 41, 3) := by decide +kernel
theorem d11_byGiving_23 : decode (mm_cc M11_byGiving) 23 = .ok (.iload_n 1, 1) := by decide +kernel
theorem d11_byGiving_24 : decode (mm_cc M11_byGiving) 24 = .ok (.baload, 1) := by decide +kernel
theorem d11_byGiving_25 : decode (mm_cc M11_byGiving) 25 = .ok (.ifCond .eq 27, 3) := by decide +kernel
theorem d11_byGiving_28 : decode (mm_cc M11_byGiving) 28 = .ok (.iload_n 2, 1) := by decide +kernel
theorem d11_byGiving_29 : decode (mm_cc M11_byGiving) 29 = .ok (.aload_n 0, 1) := by decide +kernel
theorem d11_byGiving_30 : decode (mm_cc M11_byGiving) 30 = .ok (.getfield 99, 3) := by decide +kernel
theorem d11_byGiving_33 : decode (mm_cc M11_byGiving) 33 = .ok (.iload_n 3, 1) := by decide +kernel
theorem d11_byGiving_34 : decode (mm_cc M11_byGiving) 34 = .ok (.iaload, 1) := by decide +kernel
theorem d11_byGiving_35 : decode (mm_cc M11_byGiving) 35 = .ok (.idiv, 1) := by decide +kernel
theorem d11_byGiving_36 : decode (mm_cc M11_byGiving) 36 = .ok (.aload_n 0, 1) := by decide +kernel
theorem d11_byGiving_37 : decode (mm_cc M11_byGiving) 37 = .ok (.getfield 72, 3) := by decide +kernel
theorem d11_byGiving_40 : decode (mm_cc M11_byGiving) 40 = .ok (.iload_n 3, 1) := by decide +kernel
theorem d11_byGiving_41 : decode (mm_cc M11_byGiving) 41 = .ok (.iaload, 1) := by decide +kernel
theorem d11_byGiving_42 : decode (mm_cc M11_byGiving) 42 = .ok (.iconst 1, 1) := by decide +kernel
theorem d11_byGiving_43 : decode (mm_cc M11_byGiving) 43 = .ok (.iadd, 1) := by decide +kernel
theorem d11_byGiving_44 : decode (mm_cc M11_byGiving) 44 = .ok (.irem, 1) := by decide +kernel
theorem d11_byGiving_45 : decode (mm_cc M11_byGiving) 45 = .ok (.ifCond .le 7, 3) := by decide +kernel
theorem d11_byGiving_48 : decode (mm_cc M11_byGiving) 48 = .ok (.iconst 1, 1) := by decide +kernel
theorem d11_byGiving_49 : decode (mm_cc M11_byGiving) 49 = .ok (.goto 4, 3) := by decide +kernel
theorem d11_byGiving_52 : decode (mm_cc M11_byGiving) 52 = .ok (.iconst 0, 1) := by decide +kernel
theorem d11_byGiving_53 : decode (mm_cc M11_byGiving) 53 = .ok (.istore 4, 2) := by decide +kernel
theorem d11_byGiving_55 : decode (mm_cc M11_byGiving) 55 = .ok (.iload 4, 2) := by decide +kernel
theorem d11_byGiving_57 : decode (mm_cc M11_byGiving) 57 = .ok (.ifCond .eq 34, 3) := by decide +kernel
theorem d11_byGiving_60 : decode (mm_cc M11_byGiving) 60 = .ok (.aload_n 0, 1) := by decide +kernel
theorem d11_byGiving_61 : decode (mm_cc M11_byGiving) 61 = .ok (.getfield 96, 3) := by decide +kernel
theorem d11_byGiving_64 : decode (mm_cc M11_byGiving) 64 = .ok (.sipush 256, 3) := by decide +kernel
theorem d11_byGiving_67 : decode (mm_cc M11_byGiving) 67 = .ok (.iload_n 1, 1) := by decide +kernel
theorem d11_byGiving_68 : decode (mm_cc M11_byGiving) 68 = .ok (.iconst 1, 1) := by decide +kernel
theorem d11_byGiving_69 : decode (mm_cc M11_byGiving) 69 = .ok (.iadd, 1) := by decide +kernel
theorem d11_byGiving_70 : decode (mm_cc M11_byGiving) 70 = .ok (.imul, 1) := by decide +kernel
theorem d11_byGiving_71 : decode (mm_cc M11_byGiving) 71 = .ok (.iload_n 2, 1) := by decide +kernel
theorem d11_byGiving_72 : decode (mm_cc M11_byGiving) 72 = .ok (.iadd, 1) := by decide +kernel
theorem d11_byGiving_73 : decode (mm_cc M11_byGiving) 73 = .ok (.aload_n 0, 1) := by decide +kernel
theorem d11_byGiving_74 : decode (mm_cc M11_byGiving) 74 = .ok (.getfield 99, 3) := by decide +kernel
theorem d11_byGiving_77 : decode (mm_cc M11_byGiving) 77 = .ok (.iload_n 3, 1) := by decide +kernel
theorem d11_byGiving_78 : decode (mm_cc M11_byGiving) 78 = .ok (.iaload, 1) := by decide +kernel
theorem d11_byGiving_79 : decode (mm_cc M11_byGiving) 79 = .ok (.isub, 1) := by decide +kernel
theorem d11_byGiving_80 : decode (mm_cc M11_byGiving) 80 = .ok (.iaload, 1) := by decide +kernel
theorem d11_byGiving_81 : decode (mm_cc M11_byGiving) 81 = .ok (.aload_n 0, 1) := by decide +kernel
theorem d11_byGiving_82 : decode (mm_cc M11_byGiving) 82 = .ok (.iload_n 1, 1) := by decide +kernel
theorem d11_byGiving_83 : decode (mm_cc M11_byGiving) 83 = .ok (.iload_n 3, 1) := by decide +kernel
theorem d11_byGiving_84 : decode (mm_cc M11_byGiving) 84 = .ok (.invokevirtual 362, 3) := by decide +kernel
theorem d11_byGiving_87 : decode (mm_cc M11_byGiving) 87 = .ok (.iadd, 1) := by decide +kernel
theorem d11_byGiving_88 : decode (mm_cc M11_byGiving) 88 = .ok (.goto 6, 3) := by decide +kernel
theorem d11_byGiving_91 : decode (mm_cc M11_byGiving) 91 = .ok (.ldc_w 354, 3) := by decide +kernel
theorem d11_byGiving_94 : decode (mm_cc M11_byGiving) 94 = .ok (.istore 5, 2) := by decide +kernel
theorem d11_byGiving_96 : decode (mm_cc M11_byGiving) 96 = .ok (.iload 5, 2) := by decide +kernel
theorem d11_byGiving_98 : decode (mm_cc M11_byGiving) 98 = .ok (.ldc_w 354, 3) := by decide +kernel
theorem d11_byGiving_101 : decode (mm_cc M11_byGiving) 101 = .ok (.if_icmp .le 9, 3) := by decide +kernel
theorem d11_byGiving_104 : decode (mm_cc M11_byGiving) 104 = .ok (.ldc_w 354, 3) := by decide +kernel
theorem d11_byGiving_107 : decode (mm_cc M11_byGiving) 107 = .ok (.goto 5, 3) := by decide +kernel
theorem d11_byGiving_110 : decode (mm_cc M11_byGiving) 110 = .ok (.iload 5, 2) := by decide +kernel
theorem d11_byGiving_112 : decode (mm_cc M11_byGiving) 112 = .ok (.ireturn, 1) := by decide +kernel
theorem d11_gainBy_0 : decode (mm_cc M11_gainBy) 0 = .ok (.aload_n 0, 1) := by decide +kernel
theorem d11_gainBy_1 : decode (mm_cc M11_gainBy) 1 = .ok (.iload_n 1, 1) := by decide +kernel
theorem d11_gainBy_2 : decode (mm_cc M11_gainBy) 2 = .ok (.invokevirtual 333, 3) := by decide +kernel
theorem d11_gainBy_5 : decode (mm_cc M11_gainBy) 5 = .ok (.istore_n 3, 1) := by decide +kernel
theorem d11_gainBy_6 : decode (mm_cc M11_gainBy) 6 = .ok (.aload_n 0, 1) := by decide +kernel
theorem d11_gainBy_7 : decode (mm_cc M11_gainBy) 7 = .ok (.iload_n 2, 1) := by decide +kernel
theorem d11_gainBy_8 : decode (mm_cc M11_gainBy) 8 = .ok (.invokevirtual 333, 3) := by decide +kernel
theorem d11_gainBy_11 : decode (mm_cc M11_gainBy) 11 = .ok (.istore 4, 2) := by decide +kernel
theorem d11_gainBy_13 : decode (mm_cc M11_gainBy) 13 = .ok (.aload_n 0, 1) := by decide +kernel
theorem d11_gainBy_14 : decode (mm_cc M11_gainBy) 14 = .ok (.getfield 19, 3) := by decide +kernel
theorem d11_gainBy_17 : decode (mm_cc M11_gainBy) 17 = .ok (.bipush 6, 2) := by decide +kernel
theorem d11_gainBy_19 : decode (mm_cc M11_gainBy) 19 = .ok (.iload_n 1, 1) := by decide +kernel
theorem d11_gainBy_20 : decode (mm_cc M11_gainBy) 20 = .ok (.imul, 1) := by decide +kernel
theorem d11_gainBy_21 : decode (mm_cc M11_gainBy) 21 = .ok (.iload 4, 2) := by decide +kernel
theorem d11_gainBy_23 : decode (mm_cc M11_gainBy) 23 = .ok (.iadd, 1) := by decide +kernel
theorem d11_gainBy_24 : decode (mm_cc M11_gainBy) 24 = .ok (.iaload, 1) := by decide +kernel
theorem d11_gainBy_25 : decode (mm_cc M11_gainBy) 25 = .ok (.aload_n 0, 1) := by decide +kernel
theorem d11_gainBy_26 : decode (mm_cc M11_gainBy) 26 = .ok (.getfield 19, 3) := by decide +kernel
theorem d11_gainBy_29 : decode (mm_cc M11_gainBy) 29 = .ok (.bipush 6, 2) := by decide +kernel
theorem d11_gainBy_31 : decode (mm_cc M11_gainBy) 31 = .ok (.iload_n 1, 1) := by decide +kernel
theorem d11_gainBy_32 : decode (mm_cc M11_gainBy) 32 = .ok (.imul, 1) := by decide +kernel
theorem d11_gainBy_33 : decode (mm_cc M11_gainBy) 33 = .ok (.iload_n 3, 1) := by decide +kernel
theorem d11_gainBy_34 : decode (mm_cc M11_gainBy) 34 = .ok (.iadd, 1) := by decide +kernel
theorem d11_gainBy_35 : decode (mm_cc M11_gainBy) 35 = .ok (.iaload, 1) := by decide +kernel
theorem d11_gainBy_36 : decode (mm_cc M11_gainBy) 36 = .ok (.isub, 1) := by decide +kernel
theorem d11_gainBy_37 : decode (mm_cc M11_gainBy) 37 = .ok (.istore 5, 2) := by decide +kernel
theorem d11_gainBy_39 : decode (mm_cc M11_gainBy) 39 = .ok (.aload_n 0, 1) := by decide +kernel
theorem d11_gainBy_40 : decode (mm_cc M11_gainBy) 40 = .ok (.iload_n 1, 1) := by decide +kernel
theorem d11_gainBy_41 : decode (mm_cc M11_gainBy) 41 = .ok (.iload 4, 2) := by decide +kernel
theorem d11_gainBy_43 : decode (mm_cc M11_gainBy) 43 = .ok (.invokevirtual 143, 3) := by decide +kernel
theorem d11_gainBy_46 : decode (mm_cc M11_gainBy) 46 = .ok (.ifCond .ne 21, 3) := by decide +kernel
theorem d11_gainBy_49 : decode (mm_cc M11_gainBy) 49 = .ok (.aload_n 0, 1) := by decide +kernel
theorem d11_gainBy_50 : decode (mm_cc M11_gainBy) 50 = .ok (.getfield 7, 3) := by decide +kernel
theorem d11_gainBy_53 : decode (mm_cc M11_gainBy) 53 = .ok (.iconst 4, 1) := by decide +kernel
theorem d11_gainBy_54 : decode (mm_cc M11_gainBy) 54 = .ok (.iload 4, 2) := by decide +kernel
theorem d11_gainBy_56 : decode (mm_cc M11_gainBy) 56 = .ok (.imul, 1) := by decide +kernel
theorem d11_gainBy_57 : decode (mm_cc M11_gainBy) 57 = .ok (.iaload, 1) := by decide +kernel
theorem d11_gainBy_58 : decode (mm_cc M11_gainBy) 58 = .ok (.iconst 3, 1) := by decide +kernel
theorem d11_gainBy_59 : decode (mm_cc M11_gainBy) 59 = .ok (.if_icmp .eq 8, 3) := by decide +kernel
theorem d11_gainBy_62 : decode (mm_cc M11_gainBy) 62 = .ok (.iload 5, 2) := by decide +kernel
theorem d11_gainBy_64 : decode (mm_cc M11_gainBy) 64 = .ok (.ifCond .ge 7, 3) := by decide +kernel
theorem d11_gainBy_67 : decode (mm_cc M11_gainBy) 67 = .ok (.iconst 0, 1) := by decide +kernel
theorem d11_gainBy_68 : decode (mm_cc M11_gainBy) 68 = .ok (.goto 5, 3) := by decide +kernel
theorem d11_gainBy_71 : decode (mm_cc M11_gainBy) 71 = .ok (.iload 5, 2) := by decide +kernel
theorem d11_gainBy_73 : decode (mm_cc M11_gainBy) 73 = .ok (.ireturn, 1) := by decide +kernel
theorem d11_into_0 : decode (mm_cc M11_into) 0 = .ok (.aload_n 0, 1) := by decide +kernel
theorem d11_into_1 : decode (mm_cc M11_into) 1 = .ok (.iload_n 3, 1) := by decide +kernel
theorem d11_into_2 : decode (mm_cc M11_into) 2 = .ok (.iload 4, 2) := by decide +kernel
theorem d11_into_4 : decode (mm_cc M11_into) 4 = .ok (.invokevirtual 202, 3) := by decide +kernel
theorem d11_into_7 : decode (mm_cc M11_into) 7 = .ok (.istore 5, 2) := by decide +kernel
theorem d11_into_9 : decode (mm_cc M11_into) 9 = .ok (.aload_n 1, 1) := by decide +kernel
theorem d11_into_10 : decode (mm_cc M11_into) 10 = .ok (.iload_n 2, 1) := by decide +kernel
theorem d11_into_11 : decode (mm_cc M11_into) 11 = .ok (.aload_n 0, 1) := by decide +kernel
theorem d11_into_12 : decode (mm_cc M11_into) 12 = .ok (.getfield 199, 3) := by decide +kernel
theorem d11_into_15 : decode (mm_cc M11_into) 15 = .ok (.iastore, 1) := by decide +kernel
theorem d11_into_16 : decode (mm_cc M11_into) 16 = .ok (.iload 5, 2) := by decide +kernel
theorem d11_into_18 : decode (mm_cc M11_into) 18 = .ok (.ireturn, 1) := by decide +kernel
theorem d11_lastHand_0 : decode (mm_cc M11_lastHand) 0 = .ok (.aload_n 0, 1) := by decide +kernel
theorem d11_lastHand_1 : decode (mm_cc M11_lastHand) 1 = .ok (.iload_n 1, 1) := by decide +kernel
theorem d11_lastHand_2 : decode (mm_cc M11_lastHand) 2 = .ok (.invokevirtual 267, 3) := by decide +kernel
theorem d11_lastHand_5 : decode (mm_cc M11_lastHand) 5 = .ok (.ifCond .ne 7, 3) := by decide +kernel
theorem d11_lastHand_8 : decode (mm_cc M11_lastHand) 8 = .ok (.ldc_w 271, 3) := by decide +kernel
theorem d11_lastHand_11 : decode (mm_cc M11_lastHand) 11 = .ok (.ireturn, 1) := by decide +kernel
theorem d11_lastHand_12 : decode (mm_cc M11_lastHand) 12 = .ok (.iload_n 2, 1) := by decide +kernel
theorem d11_lastHand_13 : decode (mm_cc M11_lastHand) 13 = .ok (.i2l, 1) := by decide +kernel
theorem d11_lastHand_14 : decode (mm_cc M11_lastHand) 14 = .ok (.lconst 0, 1) := by decide +kernel
theorem d11_lastHand_15 : decode (mm_cc M11_lastHand) 15 = .ok (.lconst 1, 1) := by decide +kernel
theorem d11_lastHand_16 : decode (mm_cc M11_lastHand) 16 = .ok (.invokestatic 136, 3) := by decide +kernel
theorem d11_lastHand_19 : decode (mm_cc M11_lastHand) 19 = .ok (.ifCond .ne 6, 3) := by decide +kernel
theorem d11_lastHand_22 : decode (mm_cc M11_lastHand) 22 = .ok (.ldc 156, 2) := by decide +kernel
theorem d11_lastHand_24 : decode (mm_cc M11_lastHand) 24 = .ok (.ireturn, 1) := by decide +kernel
theorem d11_lastHand_25 : decode (mm_cc M11_lastHand) 25 = .ok (.aload_n 0, 1) := by decide +kernel
theorem d11_lastHand_26 : decode (mm_cc M11_lastHand) 26 = .ok (.iload_n 1, 1) := by decide +kernel
theorem d11_lastHand_27 : decode (mm_cc M11_lastHand) 27 = .ok (.iconst 1, 1) := by decide +kernel
theorem d11_lastHand_28 : decode (mm_cc M11_lastHand) 28 = .ok (.invokevirtual 258, 3) := by decide +kernel
theorem d11_lastHand_31 : decode (mm_cc M11_lastHand) 31 = .ok (.istore_n 3, 1) := by decide +kernel
theorem d11_lastHand_32 : decode (mm_cc M11_lastHand) 32 = .ok (.iload_n 3, 1) := by decide +kernel
theorem d11_lastHand_33 : decode (mm_cc M11_lastHand) 33 = .ok (.invokestatic 278, 3) := by decide +kernel
theorem d11_lastHand_36 : decode (mm_cc M11_lastHand) 36 = .ok (.iconst 1, 1) := by decide +kernel
theorem d11_lastHand_37 : decode (mm_cc M11_lastHand) 37 = .ok (.if_icmp .eq 5, 3) := by decide +kernel
theorem d11_lastHand_40 : decode (mm_cc M11_lastHand) 40 = .ok (.iconst (-1), 1) := by decide +kernel
theorem d11_lastHand_41 : decode (mm_cc M11_lastHand) 41 = .ok (.ireturn, 1) := by decide +kernel
theorem d11_lastHand_42 : decode (mm_cc M11_lastHand) 42 = .ok (.iconst 0, 1) := by decide +kernel
theorem d11_lastHand_43 : decode (mm_cc M11_lastHand) 43 = .ok (.istore 4, 2) := by decide +kernel
theorem d11_lastHand_45 : decode (mm_cc M11_lastHand) 45 = .ok (.iload_n 3, 1) := by decide +kernel
theorem d11_lastHand_46 : decode (mm_cc M11_lastHand) 46 = .ok (.iload 4, 2) := by decide +kernel
theorem d11_lastHand_48 : decode (mm_cc M11_lastHand) 48 = .ok (.invokestatic 294, 3) := by decide +kernel
theorem d11_lastHand_51 : decode (mm_cc M11_lastHand) 51 = .ok (.ifCond .ne 9, 3) := by decide +kernel
theorem d11_lastHand_54 : decode (mm_cc M11_lastHand) 54 = .ok (.iinc 4 1, 3) := by decide +kernel
theorem d11_lastHand_57 : decode (mm_cc M11_lastHand) 57 = .ok (.goto (-12), 3) := by decide +kernel
theorem d11_lastHand_60 : decode (mm_cc M11_lastHand) 60 = .ok (.aload_n 0, 1) := by decide +kernel
theorem d11_lastHand_61 : decode (mm_cc M11_lastHand) 61 = .ok (.getfield 35, 3) := by decide +kernel
theorem d11_lastHand_64 : decode (mm_cc M11_lastHand) 64 = .ok (.aload_n 0, 1) := by decide +kernel
theorem d11_lastHand_65 : decode (mm_cc M11_lastHand) 65 = .ok (.getfield 38, 3) := by decide +kernel
theorem d11_lastHand_68 : decode (mm_cc M11_lastHand) 68 = .ok (.iload 4, 2) := by decide +kernel
theorem d11_lastHand_70 : decode (mm_cc M11_lastHand) 70 = .ok (.iaload, 1) := by decide +kernel
theorem d11_lastHand_71 : decode (mm_cc M11_lastHand) 71 = .ok (.isub, 1) := by decide +kernel
theorem d11_lastHand_72 : decode (mm_cc M11_lastHand) 72 = .ok (.istore 5, 2) := by decide +kernel
theorem d11_lastHand_74 : decode (mm_cc M11_lastHand) 74 = .ok (.iload_n 2, 1) := by decide +kernel
theorem d11_lastHand_75 : decode (mm_cc M11_lastHand) 75 = .ok (.ifCond .ne 8, 3) := by decide +kernel
theorem d11_lastHand_78 : decode (mm_cc M11_lastHand) 78 = .ok (.iload 4, 2) := by decide +kernel
theorem d11_lastHand_80 : decode (mm_cc M11_lastHand) 80 = .ok (.goto 25, 3) := by decide +kernel
theorem d11_lastHand_83 : decode (mm_cc M11_lastHand) 83 = .ok (.iload 5, 2) := by decide +kernel
theorem d11_lastHand_85 : decode (mm_cc M11_lastHand) 85 = .ok (.ifCond .ge 7, 3) := by decide +kernel
theorem d11_lastHand_88 : decode (mm_cc M11_lastHand) 88 = .ok (.iconst 0, 1) := by decide +kernel
theorem d11_lastHand_89 : decode (mm_cc M11_lastHand) 89 = .ok (.goto 16, 3) := by decide +kernel
theorem d11_lastHand_92 : decode (mm_cc M11_lastHand) 92 = .ok (.aload_n 0, 1) := by decide +kernel
theorem d11_lastHand_93 : decode (mm_cc M11_lastHand) 93 = .ok (.getfield 7, 3) := by decide +kernel
theorem d11_lastHand_96 : decode (mm_cc M11_lastHand) 96 = .ok (.iconst 4, 1) := by decide +kernel
theorem d11_lastHand_97 : decode (mm_cc M11_lastHand) 97 = .ok (.iload_n 1, 1) := by decide +kernel
theorem d11_lastHand_98 : decode (mm_cc M11_lastHand) 98 = .ok (.imul, 1) := by decide +kernel
theorem d11_lastHand_99 : decode (mm_cc M11_lastHand) 99 = .ok (.iconst 2, 1) := by decide +kernel
theorem d11_lastHand_100 : decode (mm_cc M11_lastHand) 100 = .ok (.iadd, 1) := by decide +kernel
theorem d11_lastHand_101 : decode (mm_cc M11_lastHand) 101 = .ok (.iaload, 1) := by decide +kernel
theorem d11_lastHand_102 : decode (mm_cc M11_lastHand) 102 = .ok (.iload 5, 2) := by decide +kernel
theorem d11_lastHand_104 : decode (mm_cc M11_lastHand) 104 = .ok (.imul, 1) := by decide +kernel
theorem d11_lastHand_105 : decode (mm_cc M11_lastHand) 105 = .ok (.ireturn, 1) := by decide +kernel
theorem d11_like_0 : decode (mm_cc M11_like) 0 = .ok (.aload_n 0, 1) := by decide +kernel
theorem d11_like_1 : decode (mm_cc M11_like) 1 = .ok (.iload_n 1, 1) := by decide +kernel
theorem d11_like_2 : decode (mm_cc M11_like) 2 = .ok (.invokevirtual 272, 3) := by decide +kernel
theorem d11_like_5 : decode (mm_cc M11_like) 5 = .ok (.ifCond .eq 25, 3) := by decide +kernel
theorem d11_like_8 : decode (mm_cc M11_like) 8 = .ok (.aload_n 0, 1) := by decide +kernel
theorem d11_like_9 : decode (mm_cc M11_like) 9 = .ok (.iload_n 2, 1) := by decide +kernel
theorem d11_like_10 : decode (mm_cc M11_like) 10 = .ok (.invokevirtual 267, 3) := by decide +kernel
theorem d11_like_13 : decode (mm_cc M11_like) 13 = .ok (.ifCond .eq 17, 3) := by decide +kernel
theorem d11_like_16 : decode (mm_cc M11_like) 16 = .ok (.aload_n 0, 1) := by decide +kernel
theorem d11_like_17 : decode (mm_cc M11_like) 17 = .ok (.getfield 19, 3) := by decide +kernel
theorem d11_like_20 : decode (mm_cc M11_like) 20 = .ok (.bipush 6, 2) := by decide +kernel
theorem d11_like_22 : decode (mm_cc M11_like) 22 = .ok (.iload_n 1, 1) := by decide +kernel
theorem d11_like_23 : decode (mm_cc M11_like) 23 = .ok (.imul, 1) := by decide +kernel
theorem d11_like_24 : decode (mm_cc M11_like) 24 = .ok (.iload_n 2, 1) := by decide +kernel
theorem d11_like_25 : decode (mm_cc M11_like) 25 = .ok (.iadd, 1) := by decide +kernel
theorem d11_like_26 : decode (mm_cc M11_like) 26 = .ok (.iaload, 1) := by decide +kernel
theorem d11_like_27 : decode (mm_cc M11_like) 27 = .ok (.goto 6, 3) := by decide +kernel
theorem d11_like_30 : decode (mm_cc M11_like) 30 = .ok (.ldc_w 271, 3) := by decide +kernel
theorem d11_like_33 : decode (mm_cc M11_like) 33 = .ok (.ireturn, 1) := by decide +kernel
theorem d11_make_0 : decode (mm_cc M11_make) 0 = .ok (.aload_n 0, 1) := by decide +kernel
theorem d11_make_1 : decode (mm_cc M11_make) 1 = .ok (.iload_n 1, 1) := by decide +kernel
theorem d11_make_2 : decode (mm_cc M11_make) 2 = .ok (.invokevirtual 267, 3) := by decide +kernel
theorem d11_make_5 : decode (mm_cc M11_make) 5 = .ok (.ifCond .ne 7, 3) := by decide +kernel
theorem d11_make_8 : decode (mm_cc M11_make) 8 = .ok (.ldc_w 271, 3) := by decide +kernel
theorem d11_make_11 : decode (mm_cc M11_make) 11 = .ok (.ireturn, 1) := by decide +kernel
theorem d11_make_12 : decode (mm_cc M11_make) 12 = .ok (.iload_n 2, 1) := by decide +kernel
theorem d11_make_13 : decode (mm_cc M11_make) 13 = .ok (.i2l, 1) := by decide +kernel
theorem d11_make_14 : decode (mm_cc M11_make) 14 = .ok (.lconst 1, 1) := by decide +kernel
theorem d11_make_15 : decode (mm_cc M11_make) 15 = .ok (.ldc2_w 338, 3) := by decide +kernel
theorem d11_make_18 : decode (mm_cc M11_make) 18 = .ok (.invokestatic 136, 3) := by decide +kernel
theorem d11_make_21 : decode (mm_cc M11_make) 21 = .ok (.ifCond .ne 6, 3) := by decide +kernel
theorem d11_make_24 : decode (mm_cc M11_make) 24 = .ok (.ldc 156, 2) := by decide +kernel
theorem d11_make_26 : decode (mm_cc M11_make) 26 = .ok (.ireturn, 1) := by decide +kernel
theorem d11_make_27 : decode (mm_cc M11_make) 27 = .ok (.aload_n 0, 1) := by decide +kernel
theorem d11_make_28 : decode (mm_cc M11_make) 28 = .ok (.getfield 244, 3) := by decide +kernel
theorem d11_make_31 : decode (mm_cc M11_make) 31 = .ok (.bipush 12, 2) := by decide +kernel
theorem d11_make_33 : decode (mm_cc M11_make) 33 = .ok (.if_icmp .ne 6, 3) := by decide +kernel
theorem d11_make_36 : decode (mm_cc M11_make) 36 = .ok (.ldc 160, 2) := by decide +kernel
theorem d11_make_38 : decode (mm_cc M11_make) 38 = .ok (.ireturn, 1) := by decide +kernel
theorem d11_make_39 : decode (mm_cc M11_make) 39 = .ok (.aload_n 0, 1) := by decide +kernel
theorem d11_make_40 : decode (mm_cc M11_make) 40 = .ok (.getfield 108, 3) := by decide +kernel
theorem d11_make_43 : decode (mm_cc M11_make) 43 = .ok (.aload_n 0, 1) := by decide +kernel
theorem d11_make_44 : decode (mm_cc M11_make) 44 = .ok (.getfield 244, 3) := by decide +kernel
theorem d11_make_47 : decode (mm_cc M11_make) 47 = .ok (.iload_n 1, 1) := by decide +kernel
theorem d11_make_48 : decode (mm_cc M11_make) 48 = .ok (.iastore, 1) := by decide +kernel
theorem d11_make_49 : decode (mm_cc M11_make) 49 = .ok (.aload_n 0, 1) := by decide +kernel
theorem d11_make_50 : decode (mm_cc M11_make) 50 = .ok (.getfield 111, 3) := by decide +kernel
theorem d11_make_53 : decode (mm_cc M11_make) 53 = .ok (.aload_n 0, 1) := by decide +kernel
theorem d11_make_54 : decode (mm_cc M11_make) 54 = .ok (.getfield 244, 3) := by decide +kernel
theorem d11_make_57 : decode (mm_cc M11_make) 57 = .ok (.iload_n 2, 1) := by decide +kernel
theorem d11_make_58 : decode (mm_cc M11_make) 58 = .ok (.iastore, 1) := by decide +kernel
theorem d11_make_59 : decode (mm_cc M11_make) 59 = .ok (.aload_n 0, 1) := by decide +kernel
theorem d11_make_60 : decode (mm_cc M11_make) 60 = .ok (.dup, 1) := by decide +kernel
theorem d11_make_61 : decode (mm_cc M11_make) 61 = .ok (.getfield 244, 3) := by decide +kernel
theorem d11_make_64 : decode (mm_cc M11_make) 64 = .ok (.iconst 1, 1) := by decide +kernel
theorem d11_make_65 : decode (mm_cc M11_make) 65 = .ok (.iadd, 1) := by decide +kernel
theorem d11_make_66 : decode (mm_cc M11_make) 66 = .ok (.putfield 244, 3) := by decide +kernel
theorem d11_make_69 : decode (mm_cc M11_make) 69 = .ok (.aload_n 0, 1) := by decide +kernel
theorem d11_make_70 : decode (mm_cc M11_make) 70 = .ok (.getfield 244, 3) := by decide +kernel
theorem d11_make_73 : decode (mm_cc M11_make) 73 = .ok (.ireturn, 1) := by decide +kernel
theorem d11_mayGive_0 : decode (mm_cc M11_mayGive) 0 = .ok (.iload_n 3, 1) := by decide +kernel
theorem d11_mayGive_1 : decode (mm_cc M11_mayGive) 1 = .ok (.ifCond .ge 26, 3) := by decide +kernel
theorem d11_mayGive_4 : decode (mm_cc M11_mayGive) 4 = .ok (.iload 4, 2) := by decide +kernel
theorem d11_mayGive_6 : decode (mm_cc M11_mayGive) 6 = .ok (.ifCond .ge 19, 3) := by decide +kernel
theorem d11_mayGive_9 : decode (mm_cc M11_mayGive) 9 = .ok (.aload_n 0, 1) := by decide +kernel
theorem d11_mayGive_10 : decode (mm_cc M11_mayGive) 10 = .ok (.iload_n 1, 1) := by decide +kernel
theorem d11_mayGive_11 : decode (mm_cc M11_mayGive) 11 = .ok (.invokevirtual 281, 3) := by decide +kernel
theorem d11_mayGive_14 : decode (mm_cc M11_mayGive) 14 = .ok (.aload_n 0, 1) := by decide +kernel
theorem d11_mayGive_15 : decode (mm_cc M11_mayGive) 15 = .ok (.getfield 22, 3) := by decide +kernel
theorem d11_mayGive_18 : decode (mm_cc M11_mayGive) 18 = .ok (.if_icmp .ge 7, 3) := by decide +kernel
theorem d11_mayGive_21 : decode (mm_cc M11_mayGive) 21 = .ok (.iconst 1, 1) := by decide +kernel
theorem d11_mayGive_22 : decode (mm_cc M11_mayGive) 22 = .ok (.goto 4, 3) := by decide +kernel
theorem d11_mayGive_25 : decode (mm_cc M11_mayGive) 25 = .ok (.iconst 0, 1) := by decide +kernel
theorem d11_mayGive_26 : decode (mm_cc M11_mayGive) 26 = .ok (.ireturn, 1) := by decide +kernel
theorem d11_mayGive_27 : decode (mm_cc M11_mayGive) 27 = .ok (.iload 4, 2) := by decide +kernel
theorem d11_mayGive_29 : decode (mm_cc M11_mayGive) 29 = .ok (.ifCond .ge 41, 3) := by decide +kernel
theorem d11_mayGive_32 : decode (mm_cc M11_mayGive) 32 = .ok (.aload_n 0, 1) := by decide +kernel
theorem d11_mayGive_33 : decode (mm_cc M11_mayGive) 33 = .ok (.iload_n 1, 1) := by decide +kernel
theorem d11_mayGive_34 : decode (mm_cc M11_mayGive) 34 = .ok (.iload_n 3, 1) := by decide +kernel
theorem d11_mayGive_35 : decode (mm_cc M11_mayGive) 35 = .ok (.invokevirtual 143, 3) := by decide +kernel
theorem d11_mayGive_38 : decode (mm_cc M11_mayGive) 38 = .ok (.ifCond .eq 30, 3) := by decide +kernel
theorem d11_mayGive_41 : decode (mm_cc M11_mayGive) 41 = .ok (.aload_n 0, 1) := by decide +kernel
theorem d11_mayGive_42 : decode (mm_cc M11_mayGive) 42 = .ok (.getfield 60, 3) := by decide +kernel
theorem d11_mayGive_45 : decode (mm_cc M11_mayGive) 45 = .ok (.iload_n 1, 1) := by decide +kernel
theorem d11_mayGive_46 : decode (mm_cc M11_mayGive) 46 = .ok (.iaload, 1) := by decide +kernel
theorem d11_mayGive_47 : decode (mm_cc M11_mayGive) 47 = .ok (.ifCond .ge 21, 3) := by decide +kernel
theorem d11_mayGive_50 : decode (mm_cc M11_mayGive) 50 = .ok (.aload_n 0, 1) := by decide +kernel
theorem d11_mayGive_51 : decode (mm_cc M11_mayGive) 51 = .ok (.getfield 7, 3) := by decide +kernel
theorem d11_mayGive_54 : decode (mm_cc M11_mayGive) 54 = .ok (.iconst 4, 1) := by decide +kernel
theorem d11_mayGive_55 : decode (mm_cc M11_mayGive) 55 = .ok (.iload_n 2, 1) := by decide +kernel
theorem d11_mayGive_56 : decode (mm_cc M11_mayGive) 56 = .ok (.imul, 1) := by decide +kernel
theorem d11_mayGive_57 : decode (mm_cc M11_mayGive) 57 = .ok (.iconst 3, 1) := by decide +kernel
theorem d11_mayGive_58 : decode (mm_cc M11_mayGive) 58 = .ok (.iadd, 1) := by decide +kernel
theorem d11_mayGive_59 : decode (mm_cc M11_mayGive) 59 = .ok (.iaload, 1) := by decide +kernel
theorem d11_mayGive_60 : decode (mm_cc M11_mayGive) 60 = .ok (.iload_n 3, 1) := by decide +kernel
theorem d11_mayGive_61 : decode (mm_cc M11_mayGive) 61 = .ok (.if_icmp .eq 7, 3) := by decide +kernel
theorem d11_mayGive_64 : decode (mm_cc M11_mayGive) 64 = .ok (.iconst 1, 1) := by decide +kernel
theorem d11_mayGive_65 : decode (mm_cc M11_mayGive) 65 = .ok (.goto 4, 3) := by decide +kernel
theorem d11_mayGive_68 : decode (mm_cc M11_mayGive) 68 = .ok (.iconst 0, 1) := by decide +kernel
theorem d11_mayGive_69 : decode (mm_cc M11_mayGive) 69 = .ok (.ireturn, 1) := by decide +kernel
theorem d11_mayGive_70 : decode (mm_cc M11_mayGive) 70 = .ok (.aload_n 0, 1) := by decide +kernel
theorem d11_mayGive_71 : decode (mm_cc M11_mayGive) 71 = .ok (.getfield 254, 3) := by decide +kernel
theorem d11_mayGive_74 : decode (mm_cc M11_mayGive) 74 = .ok (.ifCond .eq 37, 3) := by decide +kernel
theorem d11_mayGive_77 : decode (mm_cc M11_mayGive) 77 = .ok (.aload_n 0, 1) := by decide +kernel
theorem d11_mayGive_78 : decode (mm_cc M11_mayGive) 78 = .ok (.getfield 41, 3) := by decide +kernel
theorem d11_mayGive_81 : decode (mm_cc M11_mayGive) 81 = .ok (.iload 4, 2) := by decide +kernel
theorem d11_mayGive_83 : decode (mm_cc M11_mayGive) 83 = .ok (.baload, 1) := by decide +kernel
theorem d11_mayGive_84 : decode (mm_cc M11_mayGive) 84 = .ok (.ifCond .eq 27, 3) := by decide +kernel
theorem d11_mayGive_87 : decode (mm_cc M11_mayGive) 87 = .ok (.aload_n 0, 1) := by decide +kernel
theorem d11_mayGive_88 : decode (mm_cc M11_mayGive) 88 = .ok (.iload 4, 2) := by decide +kernel
theorem d11_mayGive_90 : decode (mm_cc M11_mayGive) 90 = .ok (.iload_n 3, 1) := by decide +kernel
theorem d11_mayGive_91 : decode (mm_cc M11_mayGive) 91 = .ok (.invokevirtual 143, 3) := by decide +kernel
theorem d11_mayGive_94 : decode (mm_cc M11_mayGive) 94 = .ok (.ifCond .eq 17, 3) := by decide +kernel
theorem d11_mayGive_97 : decode (mm_cc M11_mayGive) 97 = .ok (.aload_n 0, 1) := by decide +kernel
theorem d11_mayGive_98 : decode (mm_cc M11_mayGive) 98 = .ok (.getfield 60, 3) := by decide +kernel
theorem d11_mayGive_101 : decode (mm_cc M11_mayGive) 101 = .ok (.iload 4, 2) := by decide +kernel
theorem d11_mayGive_103 : decode (mm_cc M11_mayGive) 103 = .ok (.iaload, 1) := by decide +kernel
theorem d11_mayGive_104 : decode (mm_cc M11_mayGive) 104 = .ok (.ifCond .ge 7, 3) := by decide +kernel
theorem d11_mayGive_107 : decode (mm_cc M11_mayGive) 107 = .ok (.iconst 1, 1) := by decide +kernel
theorem d11_mayGive_108 : decode (mm_cc M11_mayGive) 108 = .ok (.goto 4, 3) := by decide +kernel
theorem d11_mayGive_111 : decode (mm_cc M11_mayGive) 111 = .ok (.iconst 0, 1) := by decide +kernel
theorem d11_mayGive_112 : decode (mm_cc M11_mayGive) 112 = .ok (.ireturn, 1) := by decide +kernel
theorem d11_maySwap_0 : decode (mm_cc M11_maySwap) 0 = .ok (.aload_n 0, 1) := by decide +kernel
theorem d11_maySwap_1 : decode (mm_cc M11_maySwap) 1 = .ok (.getfield 41, 3) := by decide +kernel
theorem d11_maySwap_4 : decode (mm_cc M11_maySwap) 4 = .ok (.iload_n 1, 1) := by decide +kernel
theorem d11_maySwap_5 : decode (mm_cc M11_maySwap) 5 = .ok (.baload, 1) := by decide +kernel
theorem d11_maySwap_6 : decode (mm_cc M11_maySwap) 6 = .ok (.ifCond .eq 24, 3) := by decide +kernel
theorem d11_maySwap_9 : decode (mm_cc M11_maySwap) 9 = .ok (.aload_n 0, 1) := by decide +kernel
theorem d11_maySwap_10 : decode (mm_cc M11_maySwap) 10 = .ok (.getfield 54, 3) := by decide +kernel
theorem d11_maySwap_13 : decode (mm_cc M11_maySwap) 13 = .ok (.iload_n 1, 1) := by decide +kernel
theorem d11_maySwap_14 : decode (mm_cc M11_maySwap) 14 = .ok (.iaload, 1) := by decide +kernel
theorem d11_maySwap_15 : decode (mm_cc M11_maySwap) 15 = .ok (.ifCond .ge 15, 3) := by decide +kernel
theorem d11_maySwap_18 : decode (mm_cc M11_maySwap) 18 = .ok (.aload_n 0, 1) := by decide +kernel
theorem d11_maySwap_19 : decode (mm_cc M11_maySwap) 19 = .ok (.iload_n 1, 1) := by decide +kernel
theorem d11_maySwap_20 : decode (mm_cc M11_maySwap) 20 = .ok (.invokevirtual 281, 3) := by decide +kernel
theorem d11_maySwap_23 : decode (mm_cc M11_maySwap) 23 = .ok (.ifCond .le 7, 3) := by decide +kernel
theorem d11_maySwap_26 : decode (mm_cc M11_maySwap) 26 = .ok (.iconst 1, 1) := by decide +kernel
theorem d11_maySwap_27 : decode (mm_cc M11_maySwap) 27 = .ok (.goto 4, 3) := by decide +kernel
theorem d11_maySwap_30 : decode (mm_cc M11_maySwap) 30 = .ok (.iconst 0, 1) := by decide +kernel
theorem d11_maySwap_31 : decode (mm_cc M11_maySwap) 31 = .ok (.ireturn, 1) := by decide +kernel
theorem d11_night_0 : decode (mm_cc M11_night) 0 = .ok (.aload_n 0, 1) := by decide +kernel
theorem d11_night_1 : decode (mm_cc M11_night) 1 = .ok (.iload_n 1, 1) := by decide +kernel
theorem d11_night_2 : decode (mm_cc M11_night) 2 = .ok (.invokevirtual 272, 3) := by decide +kernel
theorem d11_night_5 : decode (mm_cc M11_night) 5 = .ok (.ifCond .eq 11, 3) := by decide +kernel
theorem d11_night_8 : decode (mm_cc M11_night) 8 = .ok (.aload_n 0, 1) := by decide +kernel
theorem d11_night_9 : decode (mm_cc M11_night) 9 = .ok (.iload_n 2, 1) := by decide +kernel
theorem d11_night_10 : decode (mm_cc M11_night) 10 = .ok (.invokevirtual 267, 3) := by decide +kernel
theorem d11_night_13 : decode (mm_cc M11_night) 13 = .ok (.ifCond .ne 7, 3) := by decide +kernel
theorem d11_night_16 : decode (mm_cc M11_night) 16 = .ok (.ldc_w 271, 3) := by decide +kernel
theorem d11_night_19 : decode (mm_cc M11_night) 19 = .ok (.ireturn, 1) := by decide +kernel
theorem d11_night_20 : decode (mm_cc M11_night) 20 = .ok (.aload_n 0, 1) := by decide +kernel
theorem d11_night_21 : decode (mm_cc M11_night) 21 = .ok (.getfield 41, 3) := by decide +kernel
theorem d11_night_24 : decode (mm_cc M11_night) 24 = .ok (.iload_n 1, 1) := by decide +kernel
theorem d11_night_25 : decode (mm_cc M11_night) 25 = .ok (.baload, 1) := by decide +kernel
theorem d11_night_26 : decode (mm_cc M11_night) 26 = .ok (.ifCond .eq 21, 3) := by decide +kernel
theorem d11_night_29 : decode (mm_cc M11_night) 29 = .ok (.aload_n 0, 1) := by decide +kernel
theorem d11_night_30 : decode (mm_cc M11_night) 30 = .ok (.iload_n 1, 1) := by decide +kernel
theorem d11_night_31 : decode (mm_cc M11_night) 31 = .ok (.iload_n 2, 1) := by decide +kernel
theorem d11_night_32 : decode (mm_cc M11_night) 32 = .ok (.invokevirtual 143, 3) := by decide +kernel
theorem d11_night_35 : decode (mm_cc M11_night) 35 = .ok (.ifCond .eq 12, 3) := by decide +kernel
theorem d11_night_38 : decode (mm_cc M11_night) 38 = .ok (.aload_n 0, 1) := by decide +kernel
theorem d11_night_39 : decode (mm_cc M11_night) 39 = .ok (.getfield 69, 3) := by decide +kernel
theorem d11_night_42 : decode (mm_cc M11_night) 42 = .ok (.iload_n 1, 1) := by decide +kernel
theorem d11_night_43 : decode (mm_cc M11_night) 43 = .ok (.baload, 1) := by decide +kernel
theorem d11_night_44 : decode (mm_cc M11_night) 44 = .ok (.ifCond .eq 6, 3) := by decide +kernel
theorem d11_night_47 : decode (mm_cc M11_night) 47 = .ok (.ldc 250, 2) := by decide +kernel
theorem d11_night_49 : decode (mm_cc M11_night) 49 = .ok (.ireturn, 1) := by decide +kernel
theorem d11_night_50 : decode (mm_cc M11_night) 50 = .ok (.aload_n 0, 1) := by decide +kernel
theorem d11_night_51 : decode (mm_cc M11_night) 51 = .ok (.getfield 45, 3) := by decide +kernel
theorem d11_night_54 : decode (mm_cc M11_night) 54 = .ok (.bipush 6, 2) := by decide +kernel
theorem d11_night_56 : decode (mm_cc M11_night) 56 = .ok (.iload_n 1, 1) := by decide +kernel
theorem d11_night_57 : decode (mm_cc M11_night) 57 = .ok (.imul, 1) := by decide +kernel
theorem d11_night_58 : decode (mm_cc M11_night) 58 = .ok (.iload_n 2, 1) := by decide +kernel
theorem d11_night_59 : decode (mm_cc M11_night) 59 = .ok (.iadd, 1) := by decide +kernel
theorem d11_night_60 : decode (mm_cc M11_night) 60 = .ok (.iaload, 1) := by decide +kernel
theorem d11_night_61 : decode (mm_cc M11_night) 61 = .ok (.iconst 5, 1) := by decide +kernel
theorem d11_night_62 : decode (mm_cc M11_night) 62 = .ok (.iadd, 1) := by decide +kernel
theorem d11_night_63 : decode (mm_cc M11_night) 63 = .ok (.istore_n 3, 1) := by decide +kernel
theorem d11_night_64 : decode (mm_cc M11_night) 64 = .ok (.aload_n 0, 1) := by decide +kernel
theorem d11_night_65 : decode (mm_cc M11_night) 65 = .ok (.getfield 45, 3) := by decide +kernel
theorem d11_night_68 : decode (mm_cc M11_night) 68 = .ok (.bipush 6, 2) := by decide +kernel
theorem d11_night_70 : decode (mm_cc M11_night) 70 = .ok (.iload_n 1, 1) := by decide +kernel
theorem d11_night_71 : decode (mm_cc M11_night) 71 = .ok (.imul, 1) := by decide +kernel
theorem d11_night_72 : decode (mm_cc M11_night) 72 = .ok (.iload_n 2, 1) := by decide +kernel
theorem d11_night_73 : decode (mm_cc M11_night) 73 = .ok (.iadd, 1) := by decide +kernel
theorem d11_night_74 : decode (mm_cc M11_night) 74 = .ok (.iload_n 3, 1) := by decide +kernel
theorem d11_night_75 : decode (mm_cc M11_night) 75 = .ok (.bipush 100, 2) := by decide +kernel
theorem d11_night_77 : decode (mm_cc M11_night) 77 = .ok (.if_icmp .le 8, 3) := by decide +kernel
theorem d11_night_80 : decode (mm_cc M11_night) 80 = .ok (.bipush 100, 2) := by decide +kernel
theorem d11_night_82 : decode (mm_cc M11_night) 82 = .ok (.goto 4, 3) := by decide +kernel
theorem d11_night_85 : decode (mm_cc M11_night) 85 = .ok (.iload_n 3, 1) := by decide +kernel
theorem d11_night_86 : decode (mm_cc M11_night) 86 = .ok (.iastore, 1) := by decide +kernel
theorem d11_night_87 : decode (mm_cc M11_night) 87 = .ok (.aload_n 0, 1) := by decide +kernel
theorem d11_night_88 : decode (mm_cc M11_night) 88 = .ok (.getfield 69, 3) := by decide +kernel
theorem d11_night_91 : decode (mm_cc M11_night) 91 = .ok (.iload_n 1, 1) := by decide +kernel
theorem d11_night_92 : decode (mm_cc M11_night) 92 = .ok (.iconst 1, 1) := by decide +kernel
theorem d11_night_93 : decode (mm_cc M11_night) 93 = .ok (.bastore, 1) := by decide +kernel
theorem d11_night_94 : decode (mm_cc M11_night) 94 = .ok (.aload_n 0, 1) := by decide +kernel
theorem d11_night_95 : decode (mm_cc M11_night) 95 = .ok (.bipush 100, 2) := by decide +kernel
theorem d11_night_97 : decode (mm_cc M11_night) 97 = .ok (.invokevirtual 311, 3) := by decide +kernel
theorem d11_night_100 : decode (mm_cc M11_night) 100 = .ok (.bipush 10, 2) := by decide +kernel
theorem d11_night_102 : decode (mm_cc M11_night) 102 = .ok (.aload_n 0, 1) := by decide +kernel
theorem d11_night_103 : decode (mm_cc M11_night) 103 = .ok (.invokevirtual 261, 3) := by decide +kernel
theorem d11_night_106 : decode (mm_cc M11_night) 106 = .ok (.invokestatic 278, 3) := by decide +kernel
theorem d11_night_109 : decode (mm_cc M11_night) 109 = .ok (.iconst 1, 1) := by decide +kernel
theorem d11_night_110 : decode (mm_cc M11_night) 110 = .ok (.isub, 1) := by decide +kernel
theorem d11_night_111 : decode (mm_cc M11_night) 111 = .ok (.imul, 1) := by decide +kernel
theorem d11_night_112 : decode (mm_cc M11_night) 112 = .ok (.if_icmp .ge 7, 3) := by decide +kernel
theorem d11_night_115 : decode (mm_cc M11_night) 115 = .ok (.iconst 1, 1) := by decide +kernel
theorem d11_night_116 : decode (mm_cc M11_night) 116 = .ok (.goto 4, 3) := by decide +kernel
theorem d11_night_119 : decode (mm_cc M11_night) 119 = .ok (.iconst 0, 1) := by decide +kernel
theorem d11_night_120 : decode (mm_cc M11_night) 120 = .ok (.istore 4, 2) := by decide +kernel
theorem d11_night_122 : decode (mm_cc M11_night) 122 = .ok (.aload_n 0, 1) := by decide +kernel
theorem d11_night_123 : decode (mm_cc M11_night) 123 = .ok (.getfield 60, 3) := by decide +kernel
theorem d11_night_126 : decode (mm_cc M11_night) 126 = .ok (.iload_n 1, 1) := by decide +kernel
theorem d11_night_127 : decode (mm_cc M11_night) 127 = .ok (.iload 4, 2) := by decide +kernel
theorem d11_night_129 : decode (mm_cc M11_night) 129 = .ok (.ifCond .eq 16, 3) := by decide +kernel
theorem d11_night_132 : decode (mm_cc M11_night) 132 = .ok (.aload_n 0, 1) := by decide +kernel
theorem d11_night_133 : decode (mm_cc M11_night) 133 = .ok (.getfield 60, 3) := by decide +kernel
theorem d11_night_136 : decode (mm_cc M11_night) 136 = .ok (.iload_n 1, 1) := by decide +kernel
theorem d11_night_137 : decode (mm_cc M11_night) 137 = .ok (.iaload, 1) := by decide +kernel
theorem d11_night_138 : decode (mm_cc M11_night) 138 = .ok (.ifCond .ge 7, 3) := by decide +kernel
theorem d11_night_141 : decode (mm_cc M11_night) 141 = .ok (.iload_n 2, 1) := by decide +kernel
theorem d11_night_142 : decode (mm_cc M11_night) 142 = .ok (.goto 9, 3) := by decide +kernel
theorem d11_night_145 : decode (mm_cc M11_night) 145 = .ok (.aload_n 0, 1) := by decide +kernel
theorem d11_night_146 : decode (mm_cc M11_night) 146 = .ok (.getfield 60, 3) := by decide +kernel
theorem d11_night_149 : decode (mm_cc M11_night) 149 = .ok (.iload_n 1, 1) := by decide +kernel
theorem d11_night_150 : decode (mm_cc M11_night) 150 = .ok (.iaload, 1) := by decide +kernel
theorem d11_night_151 : decode (mm_cc M11_night) 151 = .ok (.iastore, 1) := by decide +kernel
theorem d11_night_152 : decode (mm_cc M11_night) 152 = .ok (.iload 4, 2) := by decide +kernel
theorem d11_night_154 : decode (mm_cc M11_night) 154 = .ok (.ifCond .eq 7, 3) := by decide +kernel
theorem d11_night_157 : decode (mm_cc M11_night) 157 = .ok (.iconst 1, 1) := by decide +kernel
theorem d11_night_158 : decode (mm_cc M11_night) 158 = .ok (.goto 4, 3) := by decide +kernel
theorem d11_night_161 : decode (mm_cc M11_night) 161 = .ok (.iconst 0, 1) := by decide +kernel
theorem d11_night_162 : decode (mm_cc M11_night) 162 = .ok (.ireturn, 1) := by decide +kernel
theorem d11_person_0 : decode (mm_cc M11_person) 0 = .ok (.aload_n 0, 1) := by decide +kernel
theorem d11_person_1 : decode (mm_cc M11_person) 1 = .ok (.iload_n 1, 1) := by decide +kernel
theorem d11_person_2 : decode (mm_cc M11_person) 2 = .ok (.invokevirtual 272, 3) := by decide +kernel
theorem d11_person_5 : decode (mm_cc M11_person) 5 = .ok (.ifCond .ne 7, 3) := by decide +kernel
theorem d11_person_8 : decode (mm_cc M11_person) 8 = .ok (.ldc_w 271, 3) := by decide +kernel
theorem d11_person_11 : decode (mm_cc M11_person) 11 = .ok (.ireturn, 1) := by decide +kernel
theorem d11_person_12 : decode (mm_cc M11_person) 12 = .ok (.iload_n 2, 1) := by decide +kernel
theorem d11_person_13 : decode (mm_cc M11_person) 13 = .ok (.tableswitch 118 0 7 #[47, 54, 61, 68, 75, 81, 88, 103], 47) := by decide +kernel
theorem d11_person_60 : decode (mm_cc M11_person) 60 = .ok (.aload_n 0, 1) := by decide +kernel
theorem d11_person_61 : decode (mm_cc M11_person) 61 = .ok (.getfield 38, 3) := by decide +kernel
theorem d11_person_64 : decode (mm_cc M11_person) 64 = .ok (.iload_n 1, 1) := by decide +kernel
theorem d11_person_65 : decode (mm_cc M11_person) 65 = .ok (.iaload, 1) := by decide +kernel
theorem d11_person_66 : decode (mm_cc M11_person) 66 = .ok (.ireturn, 1) := by decide +kernel
theorem d11_person_67 : decode (mm_cc M11_person) 67 = .ok (.aload_n 0, 1) := by decide +kernel
theorem d11_person_68 : decode (mm_cc M11_person) 68 = .ok (.getfield 51, 3) := by decide +kernel
theorem d11_person_71 : decode (mm_cc M11_person) 71 = .ok (.iload_n 1, 1) := by decide +kernel
theorem d11_person_72 : decode (mm_cc M11_person) 72 = .ok (.iaload, 1) := by decide +kernel
theorem d11_person_73 : decode (mm_cc M11_person) 73 = .ok (.ireturn, 1) := by decide +kernel
theorem d11_person_74 : decode (mm_cc M11_person) 74 = .ok (.aload_n 0, 1) := by decide +kernel
theorem d11_person_75 : decode (mm_cc M11_person) 75 = .ok (.getfield 54, 3) := by decide +kernel
theorem d11_person_78 : decode (mm_cc M11_person) 78 = .ok (.iload_n 1, 1) := by decide +kernel
theorem d11_person_79 : decode (mm_cc M11_person) 79 = .ok (.iaload, 1) := by decide +kernel
theorem d11_person_80 : decode (mm_cc M11_person) 80 = .ok (.ireturn, 1) := by decide +kernel
theorem d11_person_81 : decode (mm_cc M11_person) 81 = .ok (.aload_n 0, 1) := by decide +kernel
theorem d11_person_82 : decode (mm_cc M11_person) 82 = .ok (.getfield 60, 3) := by decide +kernel
theorem d11_person_85 : decode (mm_cc M11_person) 85 = .ok (.iload_n 1, 1) := by decide +kernel
theorem d11_person_86 : decode (mm_cc M11_person) 86 = .ok (.iaload, 1) := by decide +kernel
theorem d11_person_87 : decode (mm_cc M11_person) 87 = .ok (.ireturn, 1) := by decide +kernel
theorem d11_person_88 : decode (mm_cc M11_person) 88 = .ok (.aload_n 0, 1) := by decide +kernel
theorem d11_person_89 : decode (mm_cc M11_person) 89 = .ok (.iload_n 1, 1) := by decide +kernel
theorem d11_person_90 : decode (mm_cc M11_person) 90 = .ok (.invokevirtual 275, 3) := by decide +kernel
theorem d11_person_93 : decode (mm_cc M11_person) 93 = .ok (.ireturn, 1) := by decide +kernel
theorem d11_person_94 : decode (mm_cc M11_person) 94 = .ok (.aload_n 0, 1) := by decide +kernel
theorem d11_person_95 : decode (mm_cc M11_person) 95 = .ok (.getfield 63, 3) := by decide +kernel
theorem d11_person_98 : decode (mm_cc M11_person) 98 = .ok (.iload_n 1, 1) := by decide +kernel
theorem d11_person_99 : decode (mm_cc M11_person) 99 = .ok (.iaload, 1) := by decide +kernel
theorem d11_person_100 : decode (mm_cc M11_person) 100 = .ok (.ireturn, 1) := by decide +kernel
theorem d11_person_101 : decode (mm_cc M11_person) 101 = .ok (.aload_n 0, 1) := by decide +kernel
theorem d11_person_102 : decode (mm_cc M11_person) 102 = .ok (.getfield 66, 3) := by decide +kernel
theorem d11_person_105 : decode (mm_cc M11_person) 105 = .ok (.iload_n 1, 1) := by decide +kernel
theorem d11_person_106 : decode (mm_cc M11_person) 106 = .ok (.baload, 1) := by decide +kernel
theorem d11_person_107 : decode (mm_cc M11_person) 107 = .ok (.ifCond .eq 7, 3) := by decide +kernel
theorem d11_person_110 : decode (mm_cc M11_person) 110 = .ok (.iconst 1, 1) := by decide +kernel
theorem d11_person_111 : decode (mm_cc M11_person) 111 = .ok (.goto 4, 3) := by decide +kernel
theorem d11_person_114 : decode (mm_cc M11_person) 114 = .ok (.iconst 0, 1) := by decide +kernel
theorem d11_person_115 : decode (mm_cc M11_person) 115 = .ok (.ireturn, 1) := by decide +kernel
theorem d11_person_116 : decode (mm_cc M11_person) 116 = .ok (.aload_n 0, 1) := by decide +kernel
theorem d11_person_117 : decode (mm_cc M11_person) 117 = .ok (.getfield 69, 3) := by decide +kernel
theorem d11_person_120 : decode (mm_cc M11_person) 120 = .ok (.iload_n 1, 1) := by decide +kernel
theorem d11_person_121 : decode (mm_cc M11_person) 121 = .ok (.baload, 1) := by decide +kernel
theorem d11_person_122 : decode (mm_cc M11_person) 122 = .ok (.ifCond .eq 7, 3) := by decide +kernel
theorem d11_person_125 : decode (mm_cc M11_person) 125 = .ok (.iconst 1, 1) := by decide +kernel
theorem d11_person_126 : decode (mm_cc M11_person) 126 = .ok (.goto 4, 3) := by decide +kernel
theorem d11_person_129 : decode (mm_cc M11_person) 129 = .ok (.iconst 0, 1) := by decide +kernel
theorem d11_person_130 : decode (mm_cc M11_person) 130 = .ok (.ireturn, 1) := by decide +kernel
theorem d11_person_131 : decode (mm_cc M11_person) 131 = .ok (.ldc 156, 2) := by decide +kernel
theorem d11_person_133 : decode (mm_cc M11_person) 133 = .ok (.ireturn, 1) := by decide +kernel
theorem d11_practise_0 : decode (mm_cc M11_practise) 0 = .ok (.aload_n 0, 1) := by decide +kernel
theorem d11_practise_1 : decode (mm_cc M11_practise) 1 = .ok (.iload_n 1, 1) := by decide +kernel
theorem d11_practise_2 : decode (mm_cc M11_practise) 2 = .ok (.invokevirtual 272, 3) := by decide +kernel
theorem d11_practise_5 : decode (mm_cc M11_practise) 5 = .ok (.ifCond .eq 11, 3) := by decide +kernel
theorem d11_practise_8 : decode (mm_cc M11_practise) 8 = .ok (.aload_n 0, 1) := by decide +kernel
theorem d11_practise_9 : decode (mm_cc M11_practise) 9 = .ok (.iload_n 2, 1) := by decide +kernel
theorem d11_practise_10 : decode (mm_cc M11_practise) 10 = .ok (.invokevirtual 267, 3) := by decide +kernel
theorem d11_practise_13 : decode (mm_cc M11_practise) 13 = .ok (.ifCond .ne 7, 3) := by decide +kernel
theorem d11_practise_16 : decode (mm_cc M11_practise) 16 = .ok (.ldc_w 271, 3) := by decide +kernel
theorem d11_practise_19 : decode (mm_cc M11_practise) 19 = .ok (.ireturn, 1) := by decide +kernel
theorem d11_practise_20 : decode (mm_cc M11_practise) 20 = .ok (.aload_n 0, 1) := by decide +kernel
theorem d11_practise_21 : decode (mm_cc M11_practise) 21 = .ok (.getfield 41, 3) := by decide +kernel
theorem d11_practise_24 : decode (mm_cc M11_practise) 24 = .ok (.iload_n 1, 1) := by decide +kernel
theorem d11_practise_25 : decode (mm_cc M11_practise) 25 = .ok (.baload, 1) := by decide +kernel
theorem d11_practise_26 : decode (mm_cc M11_practise) 26 = .ok (.ifCond .eq 12, 3) := by decide +kernel
theorem d11_practise_29 : decode (mm_cc M11_practise) 29 = .ok (.aload_n 0, 1) := by decide +kernel
theorem d11_practise_30 : decode (mm_cc M11_practise) 30 = .ok (.iload_n 1, 1) := by decide +kernel
theorem d11_practise_31 : decode (mm_cc M11_practise) 31 = .ok (.iload_n 2, 1) := by decide +kernel
theorem d11_practise_32 : decode (mm_cc M11_practise) 32 = .ok (.invokevirtual 143, 3) := by decide +kernel
theorem d11_practise_35 : decode (mm_cc M11_practise) 35 = .ok (.ifCond .ne 6, 3) := by decide +kernel
theorem d11_practise_38 : decode (mm_cc M11_practise) 38 = .ok (.ldc 250, 2) := by decide +kernel
theorem d11_practise_40 : decode (mm_cc M11_practise) 40 = .ok (.ireturn, 1) := by decide +kernel
theorem d11_practise_41 : decode (mm_cc M11_practise) 41 = .ok (.aload_n 0, 1) := by decide +kernel
theorem d11_practise_42 : decode (mm_cc M11_practise) 42 = .ok (.getfield 51, 3) := by decide +kernel
theorem d11_practise_45 : decode (mm_cc M11_practise) 45 = .ok (.iload_n 1, 1) := by decide +kernel
theorem d11_practise_46 : decode (mm_cc M11_practise) 46 = .ok (.iaload, 1) := by decide +kernel
theorem d11_practise_47 : decode (mm_cc M11_practise) 47 = .ok (.istore_n 3, 1) := by decide +kernel
theorem d11_practise_48 : decode (mm_cc M11_practise) 48 = .ok (.aload_n 0, 1) := by decide +kernel
theorem d11_practise_49 : decode (mm_cc M11_practise) 49 = .ok (.getfield 51, 3) := by decide +kernel
theorem d11_practise_52 : decode (mm_cc M11_practise) 52 = .ok (.iload_n 1, 1) := by decide +kernel
theorem d11_practise_53 : decode (mm_cc M11_practise) 53 = .ok (.iload_n 2, 1) := by decide +kernel
theorem d11_practise_54 : decode (mm_cc M11_practise) 54 = .ok (.iastore, 1) := by decide +kernel
theorem d11_practise_55 : decode (mm_cc M11_practise) 55 = .ok (.iload_n 3, 1) := by decide +kernel
theorem d11_practise_56 : decode (mm_cc M11_practise) 56 = .ok (.ireturn, 1) := by decide +kernel
theorem d11_skill_0 : decode (mm_cc M11_skill) 0 = .ok (.aload_n 0, 1) := by decide +kernel
theorem d11_skill_1 : decode (mm_cc M11_skill) 1 = .ok (.iload_n 1, 1) := by decide +kernel
theorem d11_skill_2 : decode (mm_cc M11_skill) 2 = .ok (.invokevirtual 272, 3) := by decide +kernel
theorem d11_skill_5 : decode (mm_cc M11_skill) 5 = .ok (.ifCond .eq 25, 3) := by decide +kernel
theorem d11_skill_8 : decode (mm_cc M11_skill) 8 = .ok (.aload_n 0, 1) := by decide +kernel
theorem d11_skill_9 : decode (mm_cc M11_skill) 9 = .ok (.iload_n 2, 1) := by decide +kernel
theorem d11_skill_10 : decode (mm_cc M11_skill) 10 = .ok (.invokevirtual 267, 3) := by decide +kernel
theorem d11_skill_13 : decode (mm_cc M11_skill) 13 = .ok (.ifCond .eq 17, 3) := by decide +kernel
theorem d11_skill_16 : decode (mm_cc M11_skill) 16 = .ok (.aload_n 0, 1) := by decide +kernel
theorem d11_skill_17 : decode (mm_cc M11_skill) 17 = .ok (.getfield 45, 3) := by decide +kernel
theorem d11_skill_20 : decode (mm_cc M11_skill) 20 = .ok (.bipush 6, 2) := by decide +kernel
theorem d11_skill_22 : decode (mm_cc M11_skill) 22 = .ok (.iload_n 1, 1) := by decide +kernel
theorem d11_skill_23 : decode (mm_cc M11_skill) 23 = .ok (.imul, 1) := by decide +kernel
theorem d11_skill_24 : decode (mm_cc M11_skill) 24 = .ok (.iload_n 2, 1) := by decide +kernel
theorem d11_skill_25 : decode (mm_cc M11_skill) 25 = .ok (.iadd, 1) := by decide +kernel
theorem d11_skill_26 : decode (mm_cc M11_skill) 26 = .ok (.iaload, 1) := by decide +kernel
theorem d11_skill_27 : decode (mm_cc M11_skill) 27 = .ok (.goto 6, 3) := by decide +kernel
theorem d11_skill_30 : decode (mm_cc M11_skill) 30 = .ok (.ldc_w 271, 3) := by decide +kernel
theorem d11_skill_33 : decode (mm_cc M11_skill) 33 = .ok (.ireturn, 1) := by decide +kernel
theorem d11_told_0 : decode (mm_cc M11_told) 0 = .ok (.iload_n 1, 1) := by decide +kernel
theorem d11_told_1 : decode (mm_cc M11_told) 1 = .ok (.tableswitch 149 0 13 #[71, 76, 81, 86, 91, 96, 101, 106, 111, 116, 129, 134, 139, 144], 71) := by decide +kernel
theorem d11_told_72 : decode (mm_cc M11_told) 72 = .ok (.aload_n 0, 1) := by decide +kernel
theorem d11_told_73 : decode (mm_cc M11_told) 73 = .ok (.getfield 133, 3) := by decide +kernel
theorem d11_told_76 : decode (mm_cc M11_told) 76 = .ok (.ireturn, 1) := by decide +kernel
theorem d11_told_77 : decode (mm_cc M11_told) 77 = .ok (.aload_n 0, 1) := by decide +kernel
theorem d11_told_78 : decode (mm_cc M11_told) 78 = .ok (.getfield 140, 3) := by decide +kernel
theorem d11_told_81 : decode (mm_cc M11_told) 81 = .ok (.ireturn, 1) := by decide +kernel
theorem d11_told_82 : decode (mm_cc M11_told) 82 = .ok (.aload_n 0, 1) := by decide +kernel
theorem d11_told_83 : decode (mm_cc M11_told) 83 = .ok (.invokevirtual 261, 3) := by decide +kernel
theorem d11_told_86 : decode (mm_cc M11_told) 86 = .ok (.ireturn, 1) := by decide +kernel
theorem d11_told_87 : decode (mm_cc M11_told) 87 = .ok (.aload_n 0, 1) := by decide +kernel
theorem d11_told_88 : decode (mm_cc M11_told) 88 = .ok (.getfield 147, 3) := by decide +kernel
theorem d11_told_91 : decode (mm_cc M11_told) 91 = .ok (.ireturn, 1) := by decide +kernel
theorem d11_told_92 : decode (mm_cc M11_told) 92 = .ok (.aload_n 0, 1) := by decide +kernel
theorem d11_told_93 : decode (mm_cc M11_told) 93 = .ok (.getfield 22, 3) := by decide +kernel
theorem d11_told_96 : decode (mm_cc M11_told) 96 = .ok (.ireturn, 1) := by decide +kernel
theorem d11_told_97 : decode (mm_cc M11_told) 97 = .ok (.aload_n 0, 1) := by decide +kernel
theorem d11_told_98 : decode (mm_cc M11_told) 98 = .ok (.getfield 26, 3) := by decide +kernel
theorem d11_told_101 : decode (mm_cc M11_told) 101 = .ok (.ireturn, 1) := by decide +kernel
theorem d11_told_102 : decode (mm_cc M11_told) 102 = .ok (.aload_n 0, 1) := by decide +kernel
theorem d11_told_103 : decode (mm_cc M11_told) 103 = .ok (.getfield 29, 3) := by decide +kernel
theorem d11_told_106 : decode (mm_cc M11_told) 106 = .ok (.ireturn, 1) := by decide +kernel
theorem d11_told_107 : decode (mm_cc M11_told) 107 = .ok (.aload_n 0, 1) := by decide +kernel
theorem d11_told_108 : decode (mm_cc M11_told) 108 = .ok (.getfield 32, 3) := by decide +kernel
theorem d11_told_111 : decode (mm_cc M11_told) 111 = .ok (.ireturn, 1) := by decide +kernel
theorem d11_told_112 : decode (mm_cc M11_told) 112 = .ok (.aload_n 0, 1) := by decide +kernel
theorem d11_told_113 : decode (mm_cc M11_told) 113 = .ok (.getfield 35, 3) := by decide +kernel
theorem d11_told_116 : decode (mm_cc M11_told) 116 = .ok (.ireturn, 1) := by decide +kernel
theorem d11_told_117 : decode (mm_cc M11_told) 117 = .ok (.aload_n 0, 1) := by decide +kernel
theorem d11_told_118 : decode (mm_cc M11_told) 118 = .ok (.getfield 254, 3) := by decide +kernel
theorem d11_told_121 : decode (mm_cc M11_told) 121 = .ok (.ifCond .eq 7, 3) := by decide +kernel
theorem d11_told_124 : decode (mm_cc M11_told) 124 = .ok (.iconst 1, 1) := by decide +kernel
theorem d11_told_125 : decode (mm_cc M11_told) 125 = .ok (.goto 4, 3) := by decide +kernel
theorem d11_told_128 : decode (mm_cc M11_told) 128 = .ok (.iconst 0, 1) := by decide +kernel
theorem d11_told_129 : decode (mm_cc M11_told) 129 = .ok (.ireturn, 1) := by decide +kernel
theorem d11_told_130 : decode (mm_cc M11_told) 130 = .ok (.aload_n 0, 1) := by decide +kernel
theorem d11_told_131 : decode (mm_cc M11_told) 131 = .ok (.getfield 157, 3) := by decide +kernel
theorem d11_told_134 : decode (mm_cc M11_told) 134 = .ok (.ireturn, 1) := by decide +kernel
theorem d11_told_135 : decode (mm_cc M11_told) 135 = .ok (.aload_n 0, 1) := by decide +kernel
theorem d11_told_136 : decode (mm_cc M11_told) 136 = .ok (.getfield 244, 3) := by decide +kernel
theorem d11_told_139 : decode (mm_cc M11_told) 139 = .ok (.ireturn, 1) := by decide +kernel
theorem d11_told_140 : decode (mm_cc M11_told) 140 = .ok (.aload_n 0, 1) := by decide +kernel
theorem d11_told_141 : decode (mm_cc M11_told) 141 = .ok (.getfield 247, 3) := by decide +kernel
theorem d11_told_144 : decode (mm_cc M11_told) 144 = .ok (.ireturn, 1) := by decide +kernel
theorem d11_told_145 : decode (mm_cc M11_told) 145 = .ok (.aload_n 0, 1) := by decide +kernel
theorem d11_told_146 : decode (mm_cc M11_told) 146 = .ok (.invokevirtual 264, 3) := by decide +kernel
theorem d11_told_149 : decode (mm_cc M11_told) 149 = .ok (.ireturn, 1) := by decide +kernel
theorem d11_told_150 : decode (mm_cc M11_told) 150 = .ok (.ldc 156, 2) := by decide +kernel
theorem d11_told_152 : decode (mm_cc M11_told) 152 = .ok (.ireturn, 1) := by decide +kernel
theorem d11_trade_0 : decode (mm_cc M11_trade) 0 = .ok (.aload_n 0, 1) := by decide +kernel
theorem d11_trade_1 : decode (mm_cc M11_trade) 1 = .ok (.iload_n 1, 1) := by decide +kernel
theorem d11_trade_2 : decode (mm_cc M11_trade) 2 = .ok (.invokevirtual 267, 3) := by decide +kernel
theorem d11_trade_5 : decode (mm_cc M11_trade) 5 = .ok (.ifCond .ne 7, 3) := by decide +kernel
theorem d11_trade_8 : decode (mm_cc M11_trade) 8 = .ok (.ldc_w 271, 3) := by decide +kernel
theorem d11_trade_11 : decode (mm_cc M11_trade) 11 = .ok (.ireturn, 1) := by decide +kernel
theorem d11_trade_12 : decode (mm_cc M11_trade) 12 = .ok (.iload_n 2, 1) := by decide +kernel
theorem d11_trade_13 : decode (mm_cc M11_trade) 13 = .ok (.tableswitch 76 0 6 #[43, 43, 43, 43, 54, 61, 69], 43) := by decide +kernel
theorem d11_trade_56 : decode (mm_cc M11_trade) 56 = .ok (.aload_n 0, 1) := by decide +kernel
theorem d11_trade_57 : decode (mm_cc M11_trade) 57 = .ok (.getfield 7, 3) := by decide +kernel
theorem d11_trade_60 : decode (mm_cc M11_trade) 60 = .ok (.iconst 4, 1) := by decide +kernel
theorem d11_trade_61 : decode (mm_cc M11_trade) 61 = .ok (.iload_n 1, 1) := by decide +kernel
theorem d11_trade_62 : decode (mm_cc M11_trade) 62 = .ok (.imul, 1) := by decide +kernel
theorem d11_trade_63 : decode (mm_cc M11_trade) 63 = .ok (.iload_n 2, 1) := by decide +kernel
theorem d11_trade_64 : decode (mm_cc M11_trade) 64 = .ok (.iadd, 1) := by decide +kernel
theorem d11_trade_65 : decode (mm_cc M11_trade) 65 = .ok (.iaload, 1) := by decide +kernel
theorem d11_trade_66 : decode (mm_cc M11_trade) 66 = .ok (.ireturn, 1) := by decide +kernel
theorem d11_trade_67 : decode (mm_cc M11_trade) 67 = .ok (.aload_n 0, 1) := by decide +kernel
theorem d11_trade_68 : decode (mm_cc M11_trade) 68 = .ok (.iload_n 1, 1) := by decide +kernel
theorem d11_trade_69 : decode (mm_cc M11_trade) 69 = .ok (.iconst 1, 1) := by decide +kernel
theorem d11_trade_70 : decode (mm_cc M11_trade) 70 = .ok (.invokevirtual 258, 3) := by decide +kernel
theorem d11_trade_73 : decode (mm_cc M11_trade) 73 = .ok (.ireturn, 1) := by decide +kernel
theorem d11_trade_74 : decode (mm_cc M11_trade) 74 = .ok (.aload_n 0, 1) := by decide +kernel
theorem d11_trade_75 : decode (mm_cc M11_trade) 75 = .ok (.iload_n 1, 1) := by decide +kernel
theorem d11_trade_76 : decode (mm_cc M11_trade) 76 = .ok (.bipush 50, 2) := by decide +kernel
theorem d11_trade_78 : decode (mm_cc M11_trade) 78 = .ok (.invokevirtual 258, 3) := by decide +kernel
theorem d11_trade_81 : decode (mm_cc M11_trade) 81 = .ok (.ireturn, 1) := by decide +kernel
theorem d11_trade_82 : decode (mm_cc M11_trade) 82 = .ok (.aload_n 0, 1) := by decide +kernel
theorem d11_trade_83 : decode (mm_cc M11_trade) 83 = .ok (.getfield 72, 3) := by decide +kernel
theorem d11_trade_86 : decode (mm_cc M11_trade) 86 = .ok (.iload_n 1, 1) := by decide +kernel
theorem d11_trade_87 : decode (mm_cc M11_trade) 87 = .ok (.iaload, 1) := by decide +kernel
theorem d11_trade_88 : decode (mm_cc M11_trade) 88 = .ok (.ireturn, 1) := by decide +kernel
theorem d11_trade_89 : decode (mm_cc M11_trade) 89 = .ok (.ldc 156, 2) := by decide +kernel
theorem d11_trade_91 : decode (mm_cc M11_trade) 91 = .ok (.ireturn, 1) := by decide +kernel
theorem d11_tradeYear_0 : decode (mm_cc M11_tradeYear) 0 = .ok (.bipush 6, 2) := by decide +kernel
theorem d11_tradeYear_2 : decode (mm_cc M11_tradeYear) 2 = .ok (.iload_n 1, 1) := by decide +kernel
theorem d11_tradeYear_3 : decode (mm_cc M11_tradeYear) 3 = .ok (.imul, 1) := by decide +kernel
theorem d11_tradeYear_4 : decode (mm_cc M11_tradeYear) 4 = .ok (.iload_n 2, 1) := by decide +kernel
theorem d11_tradeYear_5 : decode (mm_cc M11_tradeYear) 5 = .ok (.iadd, 1) := by decide +kernel
theorem d11_tradeYear_6 : decode (mm_cc M11_tradeYear) 6 = .ok (.istore_n 3, 1) := by decide +kernel
theorem d11_tradeYear_7 : decode (mm_cc M11_tradeYear) 7 = .ok (.aload_n 0, 1) := by decide +kernel
theorem d11_tradeYear_8 : decode (mm_cc M11_tradeYear) 8 = .ok (.getfield 60, 3) := by decide +kernel
theorem d11_tradeYear_11 : decode (mm_cc M11_tradeYear) 11 = .ok (.iload_n 1, 1) := by decide +kernel
theorem d11_tradeYear_12 : decode (mm_cc M11_tradeYear) 12 = .ok (.iaload, 1) := by decide +kernel
theorem d11_tradeYear_13 : decode (mm_cc M11_tradeYear) 13 = .ok (.iload_n 2, 1) := by decide +kernel
theorem d11_tradeYear_14 : decode (mm_cc M11_tradeYear) 14 = .ok (.if_icmp .ne 7, 3) := by decide +kernel
theorem d11_tradeYear_17 : decode (mm_cc M11_tradeYear) 17 = .ok (.iconst 1, 1) := by decide +kernel
theorem d11_tradeYear_18 : decode (mm_cc M11_tradeYear) 18 = .ok (.goto 4, 3) := by decide +kernel
theorem d11_tradeYear_21 : decode (mm_cc M11_tradeYear) 21 = .ok (.iconst 0, 1) := by decide +kernel
theorem d11_tradeYear_22 : decode (mm_cc M11_tradeYear) 22 = .ok (.istore 4, 2) := by decide +kernel
theorem d11_tradeYear_24 : decode (mm_cc M11_tradeYear) 24 = .ok (.aload_n 0, 1) := by decide +kernel
theorem d11_tradeYear_25 : decode (mm_cc M11_tradeYear) 25 = .ok (.getfield 54, 3) := by decide +kernel
theorem d11_tradeYear_28 : decode (mm_cc M11_tradeYear) 28 = .ok (.iload_n 1, 1) := by decide +kernel
theorem d11_tradeYear_29 : decode (mm_cc M11_tradeYear) 29 = .ok (.iaload, 1) := by decide +kernel
theorem d11_tradeYear_30 : decode (mm_cc M11_tradeYear) 30 = .ok (.iload_n 2, 1) := by decide +kernel
theorem d11_tradeYear_31 : decode (mm_cc M11_tradeYear) 31 = .ok (.if_icmp .ne 7, 3) := by decide +kernel
theorem d11_tradeYear_34 : decode (mm_cc M11_tradeYear) 34 = .ok (.iconst 1, 1) := by decide +kernel
theorem d11_tradeYear_35 : decode (mm_cc M11_tradeYear) 35 = .ok (.goto 4, 3) := by decide +kernel
theorem d11_tradeYear_38 : decode (mm_cc M11_tradeYear) 38 = .ok (.iconst 0, 1) := by decide +kernel
theorem d11_tradeYear_39 : decode (mm_cc M11_tradeYear) 39 = .ok (.istore 5, 2) := by decide +kernel
theorem d11_tradeYear_41 : decode (mm_cc M11_tradeYear) 41 = .ok (.iload 4, 2) := by decide +kernel
theorem d11_tradeYear_43 : decode (mm_cc M11_tradeYear) 43 = .ok (.ifCond .eq 9, 3) := by decide +kernel
theorem d11_tradeYear_46 : decode (mm_cc M11_tradeYear) 46 = .ok (.aload_n 0, 1) := by decide +kernel
theorem d11_tradeYear_47 : decode (mm_cc M11_tradeYear) 47 = .ok (.iload_n 1, 1) := by decide +kernel
theorem d11_tradeYear_48 : decode (mm_cc M11_tradeYear) 48 = .ok (.iload_n 2, 1) := by decide +kernel
theorem d11_tradeYear_49 : decode (mm_cc M11_tradeYear) 49 = .ok (.invokevirtual 314, 3) := by decide +kernel
theorem d11_tradeYear_52 : decode (mm_cc M11_tradeYear) 52 = .ok (.iload 5, 2) := by decide +kernel
theorem d11_tradeYear_54 : decode (mm_cc M11_tradeYear) 54 = .ok (.ifCond .eq 9, 3) := by decide +kernel
theorem d11_tradeYear_57 : decode (mm_cc M11_tradeYear) 57 = .ok (.aload_n 0, 1) := by decide +kernel
theorem d11_tradeYear_58 : decode (mm_cc M11_tradeYear) 58 = .ok (.iload_n 1, 1) := by decide +kernel
theorem d11_tradeYear_59 : decode (mm_cc M11_tradeYear) 59 = .ok (.iload_n 2, 1) := by decide +kernel
theorem d11_tradeYear_60 : decode (mm_cc M11_tradeYear) 60 = .ok (.invokevirtual 318, 3) := by decide +kernel
theorem d11_tradeYear_63 : decode (mm_cc M11_tradeYear) 63 = .ok (.iload 4, 2) := by decide +kernel
theorem d11_tradeYear_65 : decode (mm_cc M11_tradeYear) 65 = .ok (.ifCond .ne 8, 3) := by decide +kernel
theorem d11_tradeYear_68 : decode (mm_cc M11_tradeYear) 68 = .ok (.iload 5, 2) := by decide +kernel
theorem d11_tradeYear_70 : decode (mm_cc M11_tradeYear) 70 = .ok (.ifCond .eq 4, 3) := by decide +kernel
theorem d11_tradeYear_73 : decode (mm_cc M11_tradeYear) 73 = .ok (.return_, 1) := by decide +kernel
theorem d11_tradeYear_74 : decode (mm_cc M11_tradeYear) 74 = .ok (.aload_n 0, 1) := by decide +kernel
theorem d11_tradeYear_75 : decode (mm_cc M11_tradeYear) 75 = .ok (.getfield 45, 3) := by decide +kernel
theorem d11_tradeYear_78 : decode (mm_cc M11_tradeYear) 78 = .ok (.iload_n 3, 1) := by decide +kernel
theorem d11_tradeYear_79 : decode (mm_cc M11_tradeYear) 79 = .ok (.iaload, 1) := by decide +kernel
theorem d11_tradeYear_80 : decode (mm_cc M11_tradeYear) 80 = .ok (.ifCond .le 56, 3) := by decide +kernel
theorem d11_tradeYear_83 : decode (mm_cc M11_tradeYear) 83 = .ok (.aload_n 0, 1) := by decide +kernel
theorem d11_tradeYear_84 : decode (mm_cc M11_tradeYear) 84 = .ok (.getfield 45, 3) := by decide +kernel
theorem d11_tradeYear_87 : decode (mm_cc M11_tradeYear) 87 = .ok (.iload_n 3, 1) := by decide +kernel
theorem d11_tradeYear_88 : decode (mm_cc M11_tradeYear) 88 = .ok (.iaload, 1) := by decide +kernel
theorem d11_tradeYear_89 : decode (mm_cc M11_tradeYear) 89 = .ok (.aload_n 0, 1) := by decide +kernel
theorem d11_tradeYear_90 : decode (mm_cc M11_tradeYear) 90 = .ok (.getfield 32, 3) := by decide +kernel
theorem d11_tradeYear_93 : decode (mm_cc M11_tradeYear) 93 = .ok (.isub, 1) := by decide +kernel
theorem d11_tradeYear_94 : decode (mm_cc M11_tradeYear) 94 = .ok (.istore 6, 2) := by decide +kernel
theorem d11_tradeYear_96 : decode (mm_cc M11_tradeYear) 96 = .ok (.aload_n 0, 1) := by decide +kernel
theorem d11_tradeYear_97 : decode (mm_cc M11_tradeYear) 97 = .ok (.getfield 45, 3) := by decide +kernel
theorem d11_tradeYear_100 : decode (mm_cc M11_tradeYear) 100 = .ok (.iload_n 3, 1) := by decide +kernel
theorem d11_tradeYear_101 : decode (mm_cc M11_tradeYear) 101 = .ok (.aload_n 0, 1) := by decide +kernel
theorem d11_tradeYear_102 : decode (mm_cc M11_tradeYear) 102 = .ok (.getfield 51, 3) := by decide +kernel
theorem d11_tradeYear_105 : decode (mm_cc M11_tradeYear) 105 = .ok (.iload_n 1, 1) := by decide +kernel
theorem d11_tradeYear_106 : decode (mm_cc M11_tradeYear) 106 = .ok (.iaload, 1) := by decide +kernel
theorem d11_tradeYear_107 : decode (mm_cc M11_tradeYear) 107 = .ok (.iload_n 2, 1) := by decide +kernel
theorem d11_tradeYear_108 : decode (mm_cc M11_tradeYear) 108 = .ok (.if_icmp .ne 12, 3) := by decide +kernel
theorem d11_tradeYear_111 : decode (mm_cc M11_tradeYear) 111 = .ok (.aload_n 0, 1) := by decide +kernel
theorem d11_tradeYear_112 : decode (mm_cc M11_tradeYear) 112 = .ok (.getfield 45, 3) := by decide +kernel
theorem d11_tradeYear_115 : decode (mm_cc M11_tradeYear) 115 = .ok (.iload_n 3, 1) := by decide +kernel
theorem d11_tradeYear_116 : decode (mm_cc M11_tradeYear) 116 = .ok (.iaload, 1) := by decide +kernel
theorem d11_tradeYear_117 : decode (mm_cc M11_tradeYear) 117 = .ok (.goto 15, 3) := by decide +kernel
theorem d11_tradeYear_120 : decode (mm_cc M11_tradeYear) 120 = .ok (.iload 6, 2) := by decide +kernel
theorem d11_tradeYear_122 : decode (mm_cc M11_tradeYear) 122 = .ok (.iconst 1, 1) := by decide +kernel
theorem d11_tradeYear_123 : decode (mm_cc M11_tradeYear) 123 = .ok (.if_icmp .ge 7, 3) := by decide +kernel
theorem d11_tradeYear_126 : decode (mm_cc M11_tradeYear) 126 = .ok (.iconst 1, 1) := by decide +kernel
theorem d11_tradeYear_127 : decode (mm_cc M11_tradeYear) 127 = .ok (.goto 5, 3) := by decide +kernel
theorem d11_tradeYear_130 : decode (mm_cc M11_tradeYear) 130 = .ok (.iload 6, 2) := by decide +kernel
theorem d11_tradeYear_132 : decode (mm_cc M11_tradeYear) 132 = .ok (.iastore, 1) := by decide +kernel
theorem d11_tradeYear_133 : decode (mm_cc M11_tradeYear) 133 = .ok (.goto 66, 3) := by decide +kernel
theorem d11_tradeYear_136 : decode (mm_cc M11_tradeYear) 136 = .ok (.aload_n 0, 1) := by decide +kernel
theorem d11_tradeYear_137 : decode (mm_cc M11_tradeYear) 137 = .ok (.getfield 7, 3) := by decide +kernel
theorem d11_tradeYear_140 : decode (mm_cc M11_tradeYear) 140 = .ok (.iconst 4, 1) := by decide +kernel
theorem d11_tradeYear_141 : decode (mm_cc M11_tradeYear) 141 = .ok (.iload_n 2, 1) := by decide +kernel
theorem d11_tradeYear_142 : decode (mm_cc M11_tradeYear) 142 = .ok (.imul, 1) := by decide +kernel
theorem d11_tradeYear_143 : decode (mm_cc M11_tradeYear) 143 = .ok (.iaload, 1) := by decide +kernel
theorem d11_tradeYear_144 : decode (mm_cc M11_tradeYear) 144 = .ok (.iconst 1, 1) := by decide +kernel
theorem d11_tradeYear_145 : decode (mm_cc M11_tradeYear) 145 = .ok (.if_icmp .ne 54, 3) := by decide +kernel
theorem d11_tradeYear_148 : decode (mm_cc M11_tradeYear) 148 = .ok (.aload_n 0, 1) := by decide +kernel
theorem d11_tradeYear_149 : decode (mm_cc M11_tradeYear) 149 = .ok (.getfield 48, 3) := by decide +kernel
theorem d11_tradeYear_152 : decode (mm_cc M11_tradeYear) 152 = .ok (.iload_n 3, 1) := by decide +kernel
theorem d11_tradeYear_153 : decode (mm_cc M11_tradeYear) 153 = .ok (.iaload, 1) := by decide +kernel
theorem d11_tradeYear_154 : decode (mm_cc M11_tradeYear) 154 = .ok (.ifCond .lt 45, 3) := by decide +kernel
theorem d11_tradeYear_157 : decode (mm_cc M11_tradeYear) 157 = .ok (.aload_n 0, 1) := by decide +kernel
theorem d11_tradeYear_158 : decode (mm_cc M11_tradeYear) 158 = .ok (.getfield 147, 3) := by decide +kernel
theorem d11_tradeYear_161 : decode (mm_cc M11_tradeYear) 161 = .ok (.aload_n 0, 1) := by decide +kernel
theorem d11_tradeYear_162 : decode (mm_cc M11_tradeYear) 162 = .ok (.getfield 48, 3) := by decide +kernel
theorem d11_tradeYear_165 : decode (mm_cc M11_tradeYear) 165 = .ok (.iload_n 3, 1) := by decide +kernel
theorem d11_tradeYear_166 : decode (mm_cc M11_tradeYear) 166 = .ok (.iaload, 1) := by decide +kernel
theorem d11_tradeYear_167 : decode (mm_cc M11_tradeYear) 167 = .ok (.bipush 9, 2) := by decide +kernel
theorem d11_tradeYear_169 : decode (mm_cc M11_tradeYear) 169 = .ok (.iadd, 1) := by decide +kernel
theorem d11_tradeYear_170 : decode (mm_cc M11_tradeYear) 170 = .ok (.if_icmp .lt 29, 3) := by decide +kernel
theorem d11_tradeYear_173 : decode (mm_cc M11_tradeYear) 173 = .ok (.aload_n 0, 1) := by decide +kernel
theorem d11_tradeYear_174 : decode (mm_cc M11_tradeYear) 174 = .ok (.iload_n 1, 1) := by decide +kernel
theorem d11_tradeYear_175 : decode (mm_cc M11_tradeYear) 175 = .ok (.invokevirtual 281, 3) := by decide +kernel
theorem d11_tradeYear_178 : decode (mm_cc M11_tradeYear) 178 = .ok (.aload_n 0, 1) := by decide +kernel
theorem d11_tradeYear_179 : decode (mm_cc M11_tradeYear) 179 = .ok (.getfield 22, 3) := by decide +kernel
theorem d11_tradeYear_182 : decode (mm_cc M11_tradeYear) 182 = .ok (.if_icmp .ge 17, 3) := by decide +kernel
theorem d11_tradeYear_185 : decode (mm_cc M11_tradeYear) 185 = .ok (.aload_n 0, 1) := by decide +kernel
theorem d11_tradeYear_186 : decode (mm_cc M11_tradeYear) 186 = .ok (.getfield 45, 3) := by decide +kernel
theorem d11_tradeYear_189 : decode (mm_cc M11_tradeYear) 189 = .ok (.iload_n 3, 1) := by decide +kernel
theorem d11_tradeYear_190 : decode (mm_cc M11_tradeYear) 190 = .ok (.iconst 1, 1) := by decide +kernel
theorem d11_tradeYear_191 : decode (mm_cc M11_tradeYear) 191 = .ok (.iastore, 1) := by decide +kernel
theorem d11_tradeYear_192 : decode (mm_cc M11_tradeYear) 192 = .ok (.aload_n 0, 1) := by decide +kernel
theorem d11_tradeYear_193 : decode (mm_cc M11_tradeYear) 193 = .ok (.getfield 48, 3) := by decide +kernel
theorem d11_tradeYear_196 : decode (mm_cc M11_tradeYear) 196 = .ok (.iload_n 3, 1) := by decide +kernel
theorem d11_tradeYear_197 : decode (mm_cc M11_tradeYear) 197 = .ok (.iconst (-1), 1) := by decide +kernel
theorem d11_tradeYear_198 : decode (mm_cc M11_tradeYear) 198 = .ok (.iastore, 1) := by decide +kernel
theorem d11_tradeYear_199 : decode (mm_cc M11_tradeYear) 199 = .ok (.return_, 1) := by decide +kernel
theorem d11_want_0 : decode (mm_cc M11_want) 0 = .ok (.aload_n 0, 1) := by decide +kernel
theorem d11_want_1 : decode (mm_cc M11_want) 1 = .ok (.iload_n 1, 1) := by decide +kernel
theorem d11_want_2 : decode (mm_cc M11_want) 2 = .ok (.invokevirtual 267, 3) := by decide +kernel
theorem d11_want_5 : decode (mm_cc M11_want) 5 = .ok (.ifCond .ne 7, 3) := by decide +kernel
theorem d11_want_8 : decode (mm_cc M11_want) 8 = .ok (.ldc_w 271, 3) := by decide +kernel
theorem d11_want_11 : decode (mm_cc M11_want) 11 = .ok (.ireturn, 1) := by decide +kernel
theorem d11_want_12 : decode (mm_cc M11_want) 12 = .ok (.iload_n 2, 1) := by decide +kernel
theorem d11_want_13 : decode (mm_cc M11_want) 13 = .ok (.i2l, 1) := by decide +kernel
theorem d11_want_14 : decode (mm_cc M11_want) 14 = .ok (.lconst 0, 1) := by decide +kernel
theorem d11_want_15 : decode (mm_cc M11_want) 15 = .ok (.ldc2_w 154, 3) := by decide +kernel
theorem d11_want_18 : decode (mm_cc M11_want) 18 = .ok (.invokestatic 136, 3) := by decide +kernel
theorem d11_want_21 : decode (mm_cc M11_want) 21 = .ok (.ifCond .ne 6, 3) := by decide +kernel
theorem d11_want_24 : decode (mm_cc M11_want) 24 = .ok (.ldc 156, 2) := by decide +kernel
theorem d11_want_26 : decode (mm_cc M11_want) 26 = .ok (.ireturn, 1) := by decide +kernel
theorem d11_want_27 : decode (mm_cc M11_want) 27 = .ok (.aload_n 0, 1) := by decide +kernel
theorem d11_want_28 : decode (mm_cc M11_want) 28 = .ok (.getfield 72, 3) := by decide +kernel
theorem d11_want_31 : decode (mm_cc M11_want) 31 = .ok (.iload_n 1, 1) := by decide +kernel
theorem d11_want_32 : decode (mm_cc M11_want) 32 = .ok (.iaload, 1) := by decide +kernel
theorem d11_want_33 : decode (mm_cc M11_want) 33 = .ok (.istore_n 3, 1) := by decide +kernel
theorem d11_want_34 : decode (mm_cc M11_want) 34 = .ok (.aload_n 0, 1) := by decide +kernel
theorem d11_want_35 : decode (mm_cc M11_want) 35 = .ok (.getfield 72, 3) := by decide +kernel
theorem d11_want_38 : decode (mm_cc M11_want) 38 = .ok (.iload_n 1, 1) := by decide +kernel
theorem d11_want_39 : decode (mm_cc M11_want) 39 = .ok (.iload_n 2, 1) := by decide +kernel
theorem d11_want_40 : decode (mm_cc M11_want) 40 = .ok (.iastore, 1) := by decide +kernel
theorem d11_want_41 : decode (mm_cc M11_want) 41 = .ok (.iload_n 3, 1) := by decide +kernel
theorem d11_want_42 : decode (mm_cc M11_want) 42 = .ok (.ireturn, 1) := by decide +kernel
theorem d11_write_0 : decode (mm_cc M11_write) 0 = .ok (.aload_n 0, 1) := by decide +kernel
theorem d11_write_1 : decode (mm_cc M11_write) 1 = .ok (.iload_n 1, 1) := by decide +kernel
theorem d11_write_2 : decode (mm_cc M11_write) 2 = .ok (.invokevirtual 272, 3) := by decide +kernel
theorem d11_write_5 : decode (mm_cc M11_write) 5 = .ok (.ifCond .eq 11, 3) := by decide +kernel
theorem d11_write_8 : decode (mm_cc M11_write) 8 = .ok (.aload_n 0, 1) := by decide +kernel
theorem d11_write_9 : decode (mm_cc M11_write) 9 = .ok (.iload_n 2, 1) := by decide +kernel
theorem d11_write_10 : decode (mm_cc M11_write) 10 = .ok (.invokevirtual 267, 3) := by decide +kernel
theorem d11_write_13 : decode (mm_cc M11_write) 13 = .ok (.ifCond .ne 7, 3) := by decide +kernel
theorem d11_write_16 : decode (mm_cc M11_write) 16 = .ok (.ldc_w 271, 3) := by decide +kernel
theorem d11_write_19 : decode (mm_cc M11_write) 19 = .ok (.ireturn, 1) := by decide +kernel
theorem d11_write_20 : decode (mm_cc M11_write) 20 = .ok (.iload_n 3, 1) := by decide +kernel
theorem d11_write_21 : decode (mm_cc M11_write) 21 = .ok (.i2l, 1) := by decide +kernel
theorem d11_write_22 : decode (mm_cc M11_write) 22 = .ok (.lconst 0, 1) := by decide +kernel
theorem d11_write_23 : decode (mm_cc M11_write) 23 = .ok (.ldc2_w 338, 3) := by decide +kernel
theorem d11_write_26 : decode (mm_cc M11_write) 26 = .ok (.invokestatic 136, 3) := by decide +kernel
theorem d11_write_29 : decode (mm_cc M11_write) 29 = .ok (.ifCond .ne 6, 3) := by decide +kernel
theorem d11_write_32 : decode (mm_cc M11_write) 32 = .ok (.ldc 156, 2) := by decide +kernel
theorem d11_write_34 : decode (mm_cc M11_write) 34 = .ok (.ireturn, 1) := by decide +kernel
theorem d11_write_35 : decode (mm_cc M11_write) 35 = .ok (.aload_n 0, 1) := by decide +kernel
theorem d11_write_36 : decode (mm_cc M11_write) 36 = .ok (.getfield 247, 3) := by decide +kernel
theorem d11_write_39 : decode (mm_cc M11_write) 39 = .ok (.bipush 40, 2) := by decide +kernel
theorem d11_write_41 : decode (mm_cc M11_write) 41 = .ok (.if_icmp .ne 6, 3) := by decide +kernel
theorem d11_write_44 : decode (mm_cc M11_write) 44 = .ok (.ldc 160, 2) := by decide +kernel
theorem d11_write_46 : decode (mm_cc M11_write) 46 = .ok (.ireturn, 1) := by decide +kernel
theorem d11_write_47 : decode (mm_cc M11_write) 47 = .ok (.aload_n 0, 1) := by decide +kernel
theorem d11_write_48 : decode (mm_cc M11_write) 48 = .ok (.getfield 114, 3) := by decide +kernel
theorem d11_write_51 : decode (mm_cc M11_write) 51 = .ok (.aload_n 0, 1) := by decide +kernel
theorem d11_write_52 : decode (mm_cc M11_write) 52 = .ok (.getfield 247, 3) := by decide +kernel
theorem d11_write_55 : decode (mm_cc M11_write) 55 = .ok (.iload_n 1, 1) := by decide +kernel
theorem d11_write_56 : decode (mm_cc M11_write) 56 = .ok (.iastore, 1) := by decide +kernel
theorem d11_write_57 : decode (mm_cc M11_write) 57 = .ok (.aload_n 0, 1) := by decide +kernel
theorem d11_write_58 : decode (mm_cc M11_write) 58 = .ok (.getfield 117, 3) := by decide +kernel
theorem d11_write_61 : decode (mm_cc M11_write) 61 = .ok (.aload_n 0, 1) := by decide +kernel
theorem d11_write_62 : decode (mm_cc M11_write) 62 = .ok (.getfield 247, 3) := by decide +kernel
theorem d11_write_65 : decode (mm_cc M11_write) 65 = .ok (.iload_n 2, 1) := by decide +kernel
theorem d11_write_66 : decode (mm_cc M11_write) 66 = .ok (.iastore, 1) := by decide +kernel
theorem d11_write_67 : decode (mm_cc M11_write) 67 = .ok (.aload_n 0, 1) := by decide +kernel
theorem d11_write_68 : decode (mm_cc M11_write) 68 = .ok (.getfield 120, 3) := by decide +kernel
theorem d11_write_71 : decode (mm_cc M11_write) 71 = .ok (.aload_n 0, 1) := by decide +kernel
theorem d11_write_72 : decode (mm_cc M11_write) 72 = .ok (.getfield 247, 3) := by decide +kernel
theorem d11_write_75 : decode (mm_cc M11_write) 75 = .ok (.iload_n 3, 1) := by decide +kernel
theorem d11_write_76 : decode (mm_cc M11_write) 76 = .ok (.iastore, 1) := by decide +kernel
theorem d11_write_77 : decode (mm_cc M11_write) 77 = .ok (.aload_n 0, 1) := by decide +kernel
theorem d11_write_78 : decode (mm_cc M11_write) 78 = .ok (.dup, 1) := by decide +kernel
theorem d11_write_79 : decode (mm_cc M11_write) 79 = .ok (.getfield 247, 3) := by decide +kernel
theorem d11_write_82 : decode (mm_cc M11_write) 82 = .ok (.iconst 1, 1) := by decide +kernel
theorem d11_write_83 : decode (mm_cc M11_write) 83 = .ok (.iadd, 1) := by decide +kernel
theorem d11_write_84 : decode (mm_cc M11_write) 84 = .ok (.putfield 247, 3) := by decide +kernel
theorem d11_write_87 : decode (mm_cc M11_write) 87 = .ok (.aload_n 0, 1) := by decide +kernel
theorem d11_write_88 : decode (mm_cc M11_write) 88 = .ok (.getfield 247, 3) := by decide +kernel
theorem d11_write_91 : decode (mm_cc M11_write) 91 = .ok (.ireturn, 1) := by decide +kernel
theorem d1_bestOf_0 : decode (mm_cc M1_bestOf) 0 = .ok (.iconst (-1), 1) := by decide +kernel
theorem d1_bestOf_1 : decode (mm_cc M1_bestOf) 1 = .ok (.istore_n 2, 1) := by decide +kernel
theorem d1_bestOf_2 : decode (mm_cc M1_bestOf) 2 = .ok (.iconst 0, 1) := by decide +kernel
theorem d1_bestOf_3 : decode (mm_cc M1_bestOf) 3 = .ok (.istore_n 3, 1) := by decide +kernel
theorem d1_bestOf_4 : decode (mm_cc M1_bestOf) 4 = .ok (.iload_n 3, 1) := by decide +kernel
theorem d1_bestOf_5 : decode (mm_cc M1_bestOf) 5 = .ok (.bipush 6, 2) := by decide +kernel
theorem d1_bestOf_7 : decode (mm_cc M1_bestOf) 7 = .ok (.if_icmp .ge 26, 3) := by decide +kernel
theorem d1_bestOf_10 : decode (mm_cc M1_bestOf) 10 = .ok (.aload_n 0, 1) := by decide +kernel
theorem d1_bestOf_11 : decode (mm_cc M1_bestOf) 11 = .ok (.iload_n 1, 1) := by decide +kernel
theorem d1_bestOf_12 : decode (mm_cc M1_bestOf) 12 = .ok (.iload_n 3, 1) := by decide +kernel
theorem d1_bestOf_13 : decode (mm_cc M1_bestOf) 13 = .ok (.invokevirtual 83, 3) := by decide +kernel
theorem d1_bestOf_16 : decode (mm_cc M1_bestOf) 16 = .ok (.aload_n 0, 1) := by decide +kernel
theorem d1_bestOf_17 : decode (mm_cc M1_bestOf) 17 = .ok (.iload_n 1, 1) := by decide +kernel
theorem d1_bestOf_18 : decode (mm_cc M1_bestOf) 18 = .ok (.iload_n 2, 1) := by decide +kernel
theorem d1_bestOf_19 : decode (mm_cc M1_bestOf) 19 = .ok (.invokevirtual 83, 3) := by decide +kernel
theorem d1_bestOf_22 : decode (mm_cc M1_bestOf) 22 = .ok (.if_icmp .le 5, 3) := by decide +kernel
theorem d1_bestOf_25 : decode (mm_cc M1_bestOf) 25 = .ok (.iload_n 3, 1) := by decide +kernel
theorem d1_bestOf_26 : decode (mm_cc M1_bestOf) 26 = .ok (.istore_n 2, 1) := by decide +kernel
theorem d1_bestOf_27 : decode (mm_cc M1_bestOf) 27 = .ok (.iinc 3 1, 3) := by decide +kernel
theorem d1_bestOf_30 : decode (mm_cc M1_bestOf) 30 = .ok (.goto (-26), 3) := by decide +kernel
theorem d1_bestOf_33 : decode (mm_cc M1_bestOf) 33 = .ok (.iload_n 2, 1) := by decide +kernel
theorem d1_bestOf_34 : decode (mm_cc M1_bestOf) 34 = .ok (.ireturn, 1) := by decide +kernel
theorem d1_clear_0 : decode (mm_cc M1_clear) 0 = .ok (.aload_n 0, 1) := by decide +kernel
theorem d1_clear_1 : decode (mm_cc M1_clear) 1 = .ok (.iconst 0, 1) := by decide +kernel
theorem d1_clear_2 : decode (mm_cc M1_clear) 2 = .ok (.putfield 44, 3) := by decide +kernel
theorem d1_clear_5 : decode (mm_cc M1_clear) 5 = .ok (.aload_n 0, 1) := by decide +kernel
theorem d1_clear_6 : decode (mm_cc M1_clear) 6 = .ok (.iconst 0, 1) := by decide +kernel
theorem d1_clear_7 : decode (mm_cc M1_clear) 7 = .ok (.putfield 48, 3) := by decide +kernel
theorem d1_clear_10 : decode (mm_cc M1_clear) 10 = .ok (.aload_n 0, 1) := by decide +kernel
theorem d1_clear_11 : decode (mm_cc M1_clear) 11 = .ok (.iconst 0, 1) := by decide +kernel
theorem d1_clear_12 : decode (mm_cc M1_clear) 12 = .ok (.putfield 51, 3) := by decide +kernel
theorem d1_clear_15 : decode (mm_cc M1_clear) 15 = .ok (.aload_n 0, 1) := by decide +kernel
theorem d1_clear_16 : decode (mm_cc M1_clear) 16 = .ok (.iconst 0, 1) := by decide +kernel
theorem d1_clear_17 : decode (mm_cc M1_clear) 17 = .ok (.putfield 54, 3) := by decide +kernel
theorem d1_clear_20 : decode (mm_cc M1_clear) 20 = .ok (.aload_n 0, 1) := by decide +kernel
theorem d1_clear_21 : decode (mm_cc M1_clear) 21 = .ok (.iconst 0, 1) := by decide +kernel
theorem d1_clear_22 : decode (mm_cc M1_clear) 22 = .ok (.putfield 57, 3) := by decide +kernel
theorem d1_clear_25 : decode (mm_cc M1_clear) 25 = .ok (.iconst 0, 1) := by decide +kernel
theorem d1_clear_26 : decode (mm_cc M1_clear) 26 = .ok (.istore_n 1, 1) := by decide +kernel
theorem d1_clear_27 : decode (mm_cc M1_clear) 27 = .ok (.iload_n 1, 1) := by decide +kernel
theorem d1_clear_28 : decode (mm_cc M1_clear) 28 = .ok (.bipush 8, 2) := by decide +kernel
theorem d1_clear_30 : decode (mm_cc M1_clear) 30 = .ok (.if_icmp .ge 32, 3) := by decide +kernel
theorem d1_clear_33 : decode (mm_cc M1_clear) 33 = .ok (.aload_n 0, 1) := by decide +kernel
theorem d1_clear_34 : decode (mm_cc M1_clear) 34 = .ok (.iload_n 1, 1) := by decide +kernel
theorem d1_clear_35 : decode (mm_cc M1_clear) 35 = .ok (.invokevirtual 60, 3) := by decide +kernel
theorem d1_clear_38 : decode (mm_cc M1_clear) 38 = .ok (.aload_n 0, 1) := by decide +kernel
theorem d1_clear_39 : decode (mm_cc M1_clear) 39 = .ok (.getfield 14, 3) := by decide +kernel
theorem d1_clear_42 : decode (mm_cc M1_clear) 42 = .ok (.iload_n 1, 1) := by decide +kernel
theorem d1_clear_43 : decode (mm_cc M1_clear) 43 = .ok (.iconst 0, 1) := by decide +kernel
theorem d1_clear_44 : decode (mm_cc M1_clear) 44 = .ok (.invokevirtual 63, 3) := by decide +kernel
theorem d1_clear_47 : decode (mm_cc M1_clear) 47 = .ok (.aload_n 0, 1) := by decide +kernel
theorem d1_clear_48 : decode (mm_cc M1_clear) 48 = .ok (.getfield 38, 3) := by decide +kernel
theorem d1_clear_51 : decode (mm_cc M1_clear) 51 = .ok (.iload_n 1, 1) := by decide +kernel
theorem d1_clear_52 : decode (mm_cc M1_clear) 52 = .ok (.iconst 0, 1) := by decide +kernel
theorem d1_clear_53 : decode (mm_cc M1_clear) 53 = .ok (.invokevirtual 63, 3) := by decide +kernel
theorem d1_clear_56 : decode (mm_cc M1_clear) 56 = .ok (.iinc 1 1, 3) := by decide +kernel
theorem d1_clear_59 : decode (mm_cc M1_clear) 59 = .ok (.goto (-32), 3) := by decide +kernel
theorem d1_clear_62 : decode (mm_cc M1_clear) 62 = .ok (.return_, 1) := by decide +kernel
theorem d1_withSkill_0 : decode (mm_cc M1_withSkill) 0 = .ok (.iconst 0, 1) := by decide +kernel
theorem d1_withSkill_1 : decode (mm_cc M1_withSkill) 1 = .ok (.istore_n 3, 1) := by decide +kernel
theorem d1_withSkill_2 : decode (mm_cc M1_withSkill) 2 = .ok (.iconst 0, 1) := by decide +kernel
theorem d1_withSkill_3 : decode (mm_cc M1_withSkill) 3 = .ok (.istore 4, 2) := by decide +kernel
theorem d1_withSkill_5 : decode (mm_cc M1_withSkill) 5 = .ok (.iload 4, 2) := by decide +kernel
theorem d1_withSkill_7 : decode (mm_cc M1_withSkill) 7 = .ok (.bipush 8, 2) := by decide +kernel
theorem d1_withSkill_9 : decode (mm_cc M1_withSkill) 9 = .ok (.if_icmp .ge 27, 3) := by decide +kernel
theorem d1_withSkill_12 : decode (mm_cc M1_withSkill) 12 = .ok (.aload_n 0, 1) := by decide +kernel
theorem d1_withSkill_13 : decode (mm_cc M1_withSkill) 13 = .ok (.iload 4, 2) := by decide +kernel
theorem d1_withSkill_15 : decode (mm_cc M1_withSkill) 15 = .ok (.iload_n 1, 1) := by decide +kernel
theorem d1_withSkill_16 : decode (mm_cc M1_withSkill) 16 = .ok (.invokevirtual 83, 3) := by decide +kernel
theorem d1_withSkill_19 : decode (mm_cc M1_withSkill) 19 = .ok (.iload_n 2, 1) := by decide +kernel
theorem d1_withSkill_20 : decode (mm_cc M1_withSkill) 20 = .ok (.if_icmp .lt 10, 3) := by decide +kernel
theorem d1_withSkill_23 : decode (mm_cc M1_withSkill) 23 = .ok (.iload_n 3, 1) := by decide +kernel
theorem d1_withSkill_24 : decode (mm_cc M1_withSkill) 24 = .ok (.iconst 1, 1) := by decide +kernel
theorem d1_withSkill_25 : decode (mm_cc M1_withSkill) 25 = .ok (.iload 4, 2) := by decide +kernel
theorem d1_withSkill_27 : decode (mm_cc M1_withSkill) 27 = .ok (.ishl, 1) := by decide +kernel
theorem d1_withSkill_28 : decode (mm_cc M1_withSkill) 28 = .ok (.ior, 1) := by decide +kernel
theorem d1_withSkill_29 : decode (mm_cc M1_withSkill) 29 = .ok (.istore_n 3, 1) := by decide +kernel
theorem d1_withSkill_30 : decode (mm_cc M1_withSkill) 30 = .ok (.iinc 4 1, 3) := by decide +kernel
theorem d1_withSkill_33 : decode (mm_cc M1_withSkill) 33 = .ok (.goto (-28), 3) := by decide +kernel
theorem d1_withSkill_36 : decode (mm_cc M1_withSkill) 36 = .ok (.iload_n 3, 1) := by decide +kernel
theorem d1_withSkill_37 : decode (mm_cc M1_withSkill) 37 = .ok (.ireturn, 1) := by decide +kernel
theorem d2_bearChild_0 : decode (mm_cc M2_bearChild) 0 = .ok (.aload_n 0, 1) := by decide +kernel
theorem d2_bearChild_1 : decode (mm_cc M2_bearChild) 1 = .ok (.getfield 19, 3) := by decide +kernel
theorem d2_bearChild_4 : decode (mm_cc M2_bearChild) 4 = .ok (.dup, 1) := by decide +kernel
theorem d2_bearChild_5 : decode (mm_cc M2_bearChild) 5 = .ok (.getfield 134, 3) := by decide +kernel
theorem d2_bearChild_8 : decode (mm_cc M2_bearChild) 8 = .ok (.iconst 1, 1) := by decide +kernel
theorem d2_bearChild_9 : decode (mm_cc M2_bearChild) 9 = .ok (.iload_n 1, 1) := by decide +kernel
theorem d2_bearChild_10 : decode (mm_cc M2_bearChild) 10 = .ok (.ishl, 1) := by decide +kernel
theorem d2_bearChild_11 : decode (mm_cc M2_bearChild) 11 = .ok (.ior, 1) := by decide +kernel
theorem d2_bearChild_12 : decode (mm_cc M2_bearChild) 12 = .ok (.putfield 134, 3) := by decide +kernel
theorem d2_bearChild_15 : decode (mm_cc M2_bearChild) 15 = .ok (.aload_n 0, 1) := by decide +kernel
theorem d2_bearChild_16 : decode (mm_cc M2_bearChild) 16 = .ok (.getfield 19, 3) := by decide +kernel
theorem d2_bearChild_19 : decode (mm_cc M2_bearChild) 19 = .ok (.getfield 165, 3) := by decide +kernel
theorem d2_bearChild_22 : decode (mm_cc M2_bearChild) 22 = .ok (.iload_n 1, 1) := by decide +kernel
theorem d2_bearChild_23 : decode (mm_cc M2_bearChild) 23 = .ok (.iconst 0, 1) := by decide +kernel
theorem d2_bearChild_24 : decode (mm_cc M2_bearChild) 24 = .ok (.invokevirtual 85, 3) := by decide +kernel
theorem d2_bearChild_27 : decode (mm_cc M2_bearChild) 27 = .ok (.aload_n 0, 1) := by decide +kernel
theorem d2_bearChild_28 : decode (mm_cc M2_bearChild) 28 = .ok (.getfield 19, 3) := by decide +kernel
theorem d2_bearChild_31 : decode (mm_cc M2_bearChild) 31 = .ok (.getfield 153, 3) := by decide +kernel
theorem d2_bearChild_34 : decode (mm_cc M2_bearChild) 34 = .ok (.iload_n 1, 1) := by decide +kernel
theorem d2_bearChild_35 : decode (mm_cc M2_bearChild) 35 = .ok (.iconst 0, 1) := by decide +kernel
theorem d2_bearChild_36 : decode (mm_cc M2_bearChild) 36 = .ok (.invokevirtual 85, 3) := by decide +kernel
theorem d2_bearChild_39 : decode (mm_cc M2_bearChild) 39 = .ok (.aload_n 0, 1) := by decide +kernel
theorem d2_bearChild_40 : decode (mm_cc M2_bearChild) 40 = .ok (.getfield 19, 3) := by decide +kernel
theorem d2_bearChild_43 : decode (mm_cc M2_bearChild) 43 = .ok (.aload_n 0, 1) := by decide +kernel
theorem d2_bearChild_44 : decode (mm_cc M2_bearChild) 44 = .ok (.getfield 9, 3) := by decide +kernel
theorem d2_bearChild_47 : decode (mm_cc M2_bearChild) 47 = .ok (.getfield 23, 3) := by decide +kernel
theorem d2_bearChild_50 : decode (mm_cc M2_bearChild) 50 = .ok (.invokevirtual 137, 3) := by decide +kernel
theorem d2_bearChild_53 : decode (mm_cc M2_bearChild) 53 = .ok (.istore_n 2, 1) := by decide +kernel
theorem d2_bearChild_54 : decode (mm_cc M2_bearChild) 54 = .ok (.aload_n 0, 1) := by decide +kernel
theorem d2_bearChild_55 : decode (mm_cc M2_bearChild) 55 = .ok (.getfield 9, 3) := by decide +kernel
theorem d2_bearChild_58 : decode (mm_cc M2_bearChild) 58 = .ok (.iload_n 2, 1) := by decide +kernel
theorem d2_bearChild_59 : decode (mm_cc M2_bearChild) 59 = .ok (.invokevirtual 99, 3) := by decide +kernel
theorem d2_bearChild_62 : decode (mm_cc M2_bearChild) 62 = .ok (.ifCond .ne 26, 3) := by decide +kernel
theorem d2_bearChild_65 : decode (mm_cc M2_bearChild) 65 = .ok (.aload_n 0, 1) := by decide +kernel
theorem d2_bearChild_66 : decode (mm_cc M2_bearChild) 66 = .ok (.getfield 19, 3) := by decide +kernel
theorem d2_bearChild_69 : decode (mm_cc M2_bearChild) 69 = .ok (.iload_n 1, 1) := by decide +kernel
theorem d2_bearChild_70 : decode (mm_cc M2_bearChild) 70 = .ok (.iload_n 2, 1) := by decide +kernel
theorem d2_bearChild_71 : decode (mm_cc M2_bearChild) 71 = .ok (.bipush 50, 2) := by decide +kernel
theorem d2_bearChild_73 : decode (mm_cc M2_bearChild) 73 = .ok (.invokevirtual 127, 3) := by decide +kernel
theorem d2_bearChild_76 : decode (mm_cc M2_bearChild) 76 = .ok (.aload_n 0, 1) := by decide +kernel
theorem d2_bearChild_77 : decode (mm_cc M2_bearChild) 77 = .ok (.getfield 19, 3) := by decide +kernel
theorem d2_bearChild_80 : decode (mm_cc M2_bearChild) 80 = .ok (.getfield 147, 3) := by decide +kernel
theorem d2_bearChild_83 : decode (mm_cc M2_bearChild) 83 = .ok (.iload_n 1, 1) := by decide +kernel
theorem d2_bearChild_84 : decode (mm_cc M2_bearChild) 84 = .ok (.iload_n 2, 1) := by decide +kernel
theorem d2_bearChild_85 : decode (mm_cc M2_bearChild) 85 = .ok (.invokevirtual 85, 3) := by decide +kernel
theorem d2_bearChild_88 : decode (mm_cc M2_bearChild) 88 = .ok (.return_, 1) := by decide +kernel
theorem d2_fade_0 : decode (mm_cc M2_fade) 0 = .ok (.aload_n 0, 1) := by decide +kernel
theorem d2_fade_1 : decode (mm_cc M2_fade) 1 = .ok (.getfield 19, 3) := by decide +kernel
theorem d2_fade_4 : decode (mm_cc M2_fade) 4 = .ok (.iload_n 1, 1) := by decide +kernel
theorem d2_fade_5 : decode (mm_cc M2_fade) 5 = .ok (.iload_n 2, 1) := by decide +kernel
theorem d2_fade_6 : decode (mm_cc M2_fade) 6 = .ok (.invokevirtual 119, 3) := by decide +kernel
theorem d2_fade_9 : decode (mm_cc M2_fade) 9 = .ok (.istore_n 3, 1) := by decide +kernel
theorem d2_fade_10 : decode (mm_cc M2_fade) 10 = .ok (.iload_n 3, 1) := by decide +kernel
theorem d2_fade_11 : decode (mm_cc M2_fade) 11 = .ok (.aload_n 0, 1) := by decide +kernel
theorem d2_fade_12 : decode (mm_cc M2_fade) 12 = .ok (.getfield 15, 3) := by decide +kernel
theorem d2_fade_15 : decode (mm_cc M2_fade) 15 = .ok (.getfield 177, 3) := by decide +kernel
theorem d2_fade_18 : decode (mm_cc M2_fade) 18 = .ok (.isub, 1) := by decide +kernel
theorem d2_fade_19 : decode (mm_cc M2_fade) 19 = .ok (.istore 4, 2) := by decide +kernel
theorem d2_fade_21 : decode (mm_cc M2_fade) 21 = .ok (.aload_n 0, 1) := by decide +kernel
theorem d2_fade_22 : decode (mm_cc M2_fade) 22 = .ok (.getfield 9, 3) := by decide +kernel
theorem d2_fade_25 : decode (mm_cc M2_fade) 25 = .ok (.getfield 180, 3) := by decide +kernel
theorem d2_fade_28 : decode (mm_cc M2_fade) 28 = .ok (.iload_n 2, 1) := by decide +kernel
theorem d2_fade_29 : decode (mm_cc M2_fade) 29 = .ok (.invokevirtual 96, 3) := by decide +kernel
theorem d2_fade_32 : decode (mm_cc M2_fade) 32 = .ok (.iconst 2, 1) := by decide +kernel
theorem d2_fade_33 : decode (mm_cc M2_fade) 33 = .ok (.if_icmp .ne 20, 3) := by decide +kernel
theorem d2_fade_36 : decode (mm_cc M2_fade) 36 = .ok (.iload_n 3, 1) := by decide +kernel
theorem d2_fade_37 : decode (mm_cc M2_fade) 37 = .ok (.bipush 50, 2) := by decide +kernel
theorem d2_fade_39 : decode (mm_cc M2_fade) 39 = .ok (.if_icmp .lt 14, 3) := by decide +kernel
theorem d2_fade_42 : decode (mm_cc M2_fade) 42 = .ok (.iload 4, 2) := by decide +kernel
theorem d2_fade_44 : decode (mm_cc M2_fade) 44 = .ok (.bipush 50, 2) := by decide +kernel
theorem d2_fade_46 : decode (mm_cc M2_fade) 46 = .ok (.if_icmp .gt 7, 3) := by decide +kernel
theorem d2_fade_49 : decode (mm_cc M2_fade) 49 = .ok (.iconst 1, 1) := by decide +kernel
theorem d2_fade_50 : decode (mm_cc M2_fade) 50 = .ok (.goto 4, 3) := by decide +kernel
theorem d2_fade_53 : decode (mm_cc M2_fade) 53 = .ok (.iconst 0, 1) := by decide +kernel
theorem d2_fade_54 : decode (mm_cc M2_fade) 54 = .ok (.istore 5, 2) := by decide +kernel
theorem d2_fade_56 : decode (mm_cc M2_fade) 56 = .ok (.iload 5, 2) := by decide +kernel
theorem d2_fade_58 : decode (mm_cc M2_fade) 58 = .ok (.ifCond .eq 7, 3) := by decide +kernel
theorem d2_fade_61 : decode (mm_cc M2_fade) 61 = .ok (.bipush 50, 2) := by decide +kernel
theorem d2_fade_63 : decode (mm_cc M2_fade) 63 = .ok (.istore 4, 2) := by decide +kernel
theorem d2_fade_65 : decode (mm_cc M2_fade) 65 = .ok (.aload_n 0, 1) := by decide +kernel
theorem d2_fade_66 : decode (mm_cc M2_fade) 66 = .ok (.getfield 19, 3) := by decide +kernel
theorem d2_fade_69 : decode (mm_cc M2_fade) 69 = .ok (.iload_n 1, 1) := by decide +kernel
theorem d2_fade_70 : decode (mm_cc M2_fade) 70 = .ok (.iload_n 2, 1) := by decide +kernel
theorem d2_fade_71 : decode (mm_cc M2_fade) 71 = .ok (.iconst 0, 1) := by decide +kernel
theorem d2_fade_72 : decode (mm_cc M2_fade) 72 = .ok (.iload 4, 2) := by decide +kernel
theorem d2_fade_74 : decode (mm_cc M2_fade) 74 = .ok (.invokestatic 183, 3) := by decide +kernel
theorem d2_fade_77 : decode (mm_cc M2_fade) 77 = .ok (.invokevirtual 127, 3) := by decide +kernel
theorem d2_fade_80 : decode (mm_cc M2_fade) 80 = .ok (.iload 4, 2) := by decide +kernel
theorem d2_fade_82 : decode (mm_cc M2_fade) 82 = .ok (.ifCond .gt 25, 3) := by decide +kernel
theorem d2_fade_85 : decode (mm_cc M2_fade) 85 = .ok (.aload_n 0, 1) := by decide +kernel
theorem d2_fade_86 : decode (mm_cc M2_fade) 86 = .ok (.getfield 19, 3) := by decide +kernel
theorem d2_fade_89 : decode (mm_cc M2_fade) 89 = .ok (.getfield 186, 3) := by decide +kernel
theorem d2_fade_92 : decode (mm_cc M2_fade) 92 = .ok (.iload_n 1, 1) := by decide +kernel
theorem d2_fade_93 : decode (mm_cc M2_fade) 93 = .ok (.iload_n 2, 1) := by decide +kernel
theorem d2_fade_94 : decode (mm_cc M2_fade) 94 = .ok (.invokestatic 189, 3) := by decide +kernel
theorem d2_fade_97 : decode (mm_cc M2_fade) 97 = .ok (.aload_n 0, 1) := by decide +kernel
theorem d2_fade_98 : decode (mm_cc M2_fade) 98 = .ok (.getfield 19, 3) := by decide +kernel
theorem d2_fade_101 : decode (mm_cc M2_fade) 101 = .ok (.getfield 144, 3) := by decide +kernel
theorem d2_fade_104 : decode (mm_cc M2_fade) 104 = .ok (.invokevirtual 85, 3) := by decide +kernel
theorem d2_fade_107 : decode (mm_cc M2_fade) 107 = .ok (.iload 5, 2) := by decide +kernel
theorem d2_fade_109 : decode (mm_cc M2_fade) 109 = .ok (.ifCond .ne 8, 3) := by decide +kernel
theorem d2_fade_112 : decode (mm_cc M2_fade) 112 = .ok (.iload 4, 2) := by decide +kernel
theorem d2_fade_114 : decode (mm_cc M2_fade) 114 = .ok (.ifCond .gt 15, 3) := by decide +kernel
theorem d2_fade_117 : decode (mm_cc M2_fade) 117 = .ok (.aload_n 0, 1) := by decide +kernel
theorem d2_fade_118 : decode (mm_cc M2_fade) 118 = .ok (.getfield 19, 3) := by decide +kernel
theorem d2_fade_121 : decode (mm_cc M2_fade) 121 = .ok (.getfield 81, 3) := by decide +kernel
theorem d2_fade_124 : decode (mm_cc M2_fade) 124 = .ok (.iload_n 1, 1) := by decide +kernel
theorem d2_fade_125 : decode (mm_cc M2_fade) 125 = .ok (.iconst (-1), 1) := by decide +kernel
theorem d2_fade_126 : decode (mm_cc M2_fade) 126 = .ok (.invokevirtual 85, 3) := by decide +kernel
theorem d2_fade_129 : decode (mm_cc M2_fade) 129 = .ok (.return_, 1) := by decide +kernel
theorem d2_hasRoom_0 : decode (mm_cc M2_hasRoom) 0 = .ok (.aload_n 0, 1) := by decide +kernel
theorem d2_hasRoom_1 : decode (mm_cc M2_hasRoom) 1 = .ok (.getfield 19, 3) := by decide +kernel
theorem d2_hasRoom_4 : decode (mm_cc M2_hasRoom) 4 = .ok (.iload_n 1, 1) := by decide +kernel
theorem d2_hasRoom_5 : decode (mm_cc M2_hasRoom) 5 = .ok (.invokevirtual 35, 3) := by decide +kernel
theorem d2_hasRoom_8 : decode (mm_cc M2_hasRoom) 8 = .ok (.invokestatic 39, 3) := by decide +kernel
theorem d2_hasRoom_11 : decode (mm_cc M2_hasRoom) 11 = .ok (.aload_n 0, 1) := by decide +kernel
theorem d2_hasRoom_12 : decode (mm_cc M2_hasRoom) 12 = .ok (.getfield 15, 3) := by decide +kernel
theorem d2_hasRoom_15 : decode (mm_cc M2_hasRoom) 15 = .ok (.getfield 44, 3) := by decide +kernel
theorem d2_hasRoom_18 : decode (mm_cc M2_hasRoom) 18 = .ok (.if_icmp .ge 7, 3) := by decide +kernel
theorem d2_hasRoom_21 : decode (mm_cc M2_hasRoom) 21 = .ok (.iconst 1, 1) := by decide +kernel
theorem d2_hasRoom_22 : decode (mm_cc M2_hasRoom) 22 = .ok (.goto 4, 3) := by decide +kernel
theorem d2_hasRoom_25 : decode (mm_cc M2_hasRoom) 25 = .ok (.iconst 0, 1) := by decide +kernel
theorem d2_hasRoom_26 : decode (mm_cc M2_hasRoom) 26 = .ok (.ireturn, 1) := by decide +kernel
theorem d2_learnOn_0 : decode (mm_cc M2_learnOn) 0 = .ok (.aload_n 0, 1) := by decide +kernel
theorem d2_learnOn_1 : decode (mm_cc M2_learnOn) 1 = .ok (.getfield 19, 3) := by decide +kernel
theorem d2_learnOn_4 : decode (mm_cc M2_learnOn) 4 = .ok (.getfield 116, 3) := by decide +kernel
theorem d2_learnOn_7 : decode (mm_cc M2_learnOn) 7 = .ok (.iload_n 1, 1) := by decide +kernel
theorem d2_learnOn_8 : decode (mm_cc M2_learnOn) 8 = .ok (.invokevirtual 96, 3) := by decide +kernel
theorem d2_learnOn_11 : decode (mm_cc M2_learnOn) 11 = .ok (.iconst 1, 1) := by decide +kernel
theorem d2_learnOn_12 : decode (mm_cc M2_learnOn) 12 = .ok (.iadd, 1) := by decide +kernel
theorem d2_learnOn_13 : decode (mm_cc M2_learnOn) 13 = .ok (.istore_n 3, 1) := by decide +kernel
theorem d2_learnOn_14 : decode (mm_cc M2_learnOn) 14 = .ok (.iconst 1, 1) := by decide +kernel
theorem d2_learnOn_15 : decode (mm_cc M2_learnOn) 15 = .ok (.aload_n 0, 1) := by decide +kernel
theorem d2_learnOn_16 : decode (mm_cc M2_learnOn) 16 = .ok (.getfield 9, 3) := by decide +kernel
theorem d2_learnOn_19 : decode (mm_cc M2_learnOn) 19 = .ok (.getfield 192, 3) := by decide +kernel
theorem d2_learnOn_22 : decode (mm_cc M2_learnOn) 22 = .ok (.iload_n 2, 1) := by decide +kernel
theorem d2_learnOn_23 : decode (mm_cc M2_learnOn) 23 = .ok (.invokevirtual 96, 3) := by decide +kernel
theorem d2_learnOn_26 : decode (mm_cc M2_learnOn) 26 = .ok (.invokestatic 183, 3) := by decide +kernel
theorem d2_learnOn_29 : decode (mm_cc M2_learnOn) 29 = .ok (.istore 4, 2) := by decide +kernel
theorem d2_learnOn_31 : decode (mm_cc M2_learnOn) 31 = .ok (.iload_n 3, 1) := by decide +kernel
theorem d2_learnOn_32 : decode (mm_cc M2_learnOn) 32 = .ok (.iload 4, 2) := by decide +kernel
theorem d2_learnOn_34 : decode (mm_cc M2_learnOn) 34 = .ok (.if_icmp .lt 8, 3) := by decide +kernel
theorem d2_learnOn_37 : decode (mm_cc M2_learnOn) 37 = .ok (.bipush 100, 2) := by decide +kernel
theorem d2_learnOn_39 : decode (mm_cc M2_learnOn) 39 = .ok (.goto 23, 3) := by decide +kernel
theorem d2_learnOn_42 : decode (mm_cc M2_learnOn) 42 = .ok (.bipush 100, 2) := by decide +kernel
theorem d2_learnOn_44 : decode (mm_cc M2_learnOn) 44 = .ok (.aload_n 0, 1) := by decide +kernel
theorem d2_learnOn_45 : decode (mm_cc M2_learnOn) 45 = .ok (.getfield 19, 3) := by decide +kernel
theorem d2_learnOn_48 : decode (mm_cc M2_learnOn) 48 = .ok (.iload_n 1, 1) := by decide +kernel
theorem d2_learnOn_49 : decode (mm_cc M2_learnOn) 49 = .ok (.iload_n 2, 1) := by decide +kernel
theorem d2_learnOn_50 : decode (mm_cc M2_learnOn) 50 = .ok (.invokevirtual 119, 3) := by decide +kernel
theorem d2_learnOn_53 : decode (mm_cc M2_learnOn) 53 = .ok (.bipush 100, 2) := by decide +kernel
theorem d2_learnOn_55 : decode (mm_cc M2_learnOn) 55 = .ok (.iload 4, 2) := by decide +kernel
theorem d2_learnOn_57 : decode (mm_cc M2_learnOn) 57 = .ok (.idiv, 1) := by decide +kernel
theorem d2_learnOn_58 : decode (mm_cc M2_learnOn) 58 = .ok (.iadd, 1) := by decide +kernel
theorem d2_learnOn_59 : decode (mm_cc M2_learnOn) 59 = .ok (.invokestatic 122, 3) := by decide +kernel
theorem d2_learnOn_62 : decode (mm_cc M2_learnOn) 62 = .ok (.istore 5, 2) := by decide +kernel
theorem d2_learnOn_64 : decode (mm_cc M2_learnOn) 64 = .ok (.aload_n 0, 1) := by decide +kernel
theorem d2_learnOn_65 : decode (mm_cc M2_learnOn) 65 = .ok (.getfield 19, 3) := by decide +kernel
theorem d2_learnOn_68 : decode (mm_cc M2_learnOn) 68 = .ok (.iload_n 1, 1) := by decide +kernel
theorem d2_learnOn_69 : decode (mm_cc M2_learnOn) 69 = .ok (.iload_n 2, 1) := by decide +kernel
theorem d2_learnOn_70 : decode (mm_cc M2_learnOn) 70 = .ok (.iload 5, 2) := by decide +kernel
theorem d2_learnOn_72 : decode (mm_cc M2_learnOn) 72 = .ok (.invokevirtual 127, 3) := by decide +kernel
theorem d2_learnOn_75 : decode (mm_cc M2_learnOn) 75 = .ok (.aload_n 0, 1) := by decide +kernel
theorem d2_learnOn_76 : decode (mm_cc M2_learnOn) 76 = .ok (.getfield 19, 3) := by decide +kernel
theorem d2_learnOn_79 : decode (mm_cc M2_learnOn) 79 = .ok (.getfield 116, 3) := by decide +kernel
theorem d2_learnOn_82 : decode (mm_cc M2_learnOn) 82 = .ok (.iload_n 1, 1) := by decide +kernel
theorem d2_learnOn_83 : decode (mm_cc M2_learnOn) 83 = .ok (.iload_n 3, 1) := by decide +kernel
theorem d2_learnOn_84 : decode (mm_cc M2_learnOn) 84 = .ok (.invokevirtual 85, 3) := by decide +kernel
theorem d2_learnOn_87 : decode (mm_cc M2_learnOn) 87 = .ok (.iload 5, 2) := by decide +kernel
theorem d2_learnOn_89 : decode (mm_cc M2_learnOn) 89 = .ok (.bipush 100, 2) := by decide +kernel
theorem d2_learnOn_91 : decode (mm_cc M2_learnOn) 91 = .ok (.if_icmp .ne 15, 3) := by decide +kernel
theorem d2_learnOn_94 : decode (mm_cc M2_learnOn) 94 = .ok (.aload_n 0, 1) := by decide +kernel
theorem d2_learnOn_95 : decode (mm_cc M2_learnOn) 95 = .ok (.getfield 19, 3) := by decide +kernel
theorem d2_learnOn_98 : decode (mm_cc M2_learnOn) 98 = .ok (.getfield 93, 3) := by decide +kernel
theorem d2_learnOn_101 : decode (mm_cc M2_learnOn) 101 = .ok (.iload_n 1, 1) := by decide +kernel
theorem d2_learnOn_102 : decode (mm_cc M2_learnOn) 102 = .ok (.iconst (-1), 1) := by decide +kernel
theorem d2_learnOn_103 : decode (mm_cc M2_learnOn) 103 = .ok (.invokevirtual 85, 3) := by decide +kernel
theorem d2_learnOn_106 : decode (mm_cc M2_learnOn) 106 = .ok (.return_, 1) := by decide +kernel
theorem d2_leastLiked_0 : decode (mm_cc M2_leastLiked) 0 = .ok (.iconst (-1), 1) := by decide +kernel
theorem d2_leastLiked_1 : decode (mm_cc M2_leastLiked) 1 = .ok (.istore_n 2, 1) := by decide +kernel
theorem d2_leastLiked_2 : decode (mm_cc M2_leastLiked) 2 = .ok (.iconst 0, 1) := by decide +kernel
theorem d2_leastLiked_3 : decode (mm_cc M2_leastLiked) 3 = .ok (.istore_n 3, 1) := by decide +kernel
theorem d2_leastLiked_4 : decode (mm_cc M2_leastLiked) 4 = .ok (.iload_n 3, 1) := by decide +kernel
theorem d2_leastLiked_5 : decode (mm_cc M2_leastLiked) 5 = .ok (.aload_n 0, 1) := by decide +kernel
theorem d2_leastLiked_6 : decode (mm_cc M2_leastLiked) 6 = .ok (.getfield 9, 3) := by decide +kernel
theorem d2_leastLiked_9 : decode (mm_cc M2_leastLiked) 9 = .ok (.getfield 23, 3) := by decide +kernel
theorem d2_leastLiked_12 : decode (mm_cc M2_leastLiked) 12 = .ok (.if_icmp .ge 49, 3) := by decide +kernel
theorem d2_leastLiked_15 : decode (mm_cc M2_leastLiked) 15 = .ok (.aload_n 0, 1) := by decide +kernel
theorem d2_leastLiked_16 : decode (mm_cc M2_leastLiked) 16 = .ok (.getfield 19, 3) := by decide +kernel
theorem d2_leastLiked_19 : decode (mm_cc M2_leastLiked) 19 = .ok (.iload_n 1, 1) := by decide +kernel
theorem d2_leastLiked_20 : decode (mm_cc M2_leastLiked) 20 = .ok (.iload_n 3, 1) := by decide +kernel
theorem d2_leastLiked_21 : decode (mm_cc M2_leastLiked) 21 = .ok (.invokevirtual 49, 3) := by decide +kernel
theorem d2_leastLiked_24 : decode (mm_cc M2_leastLiked) 24 = .ok (.ifCond .eq 31, 3) := by decide +kernel
theorem d2_leastLiked_27 : decode (mm_cc M2_leastLiked) 27 = .ok (.iload_n 2, 1) := by decide +kernel
theorem d2_leastLiked_28 : decode (mm_cc M2_leastLiked) 28 = .ok (.iconst (-1), 1) := by decide +kernel
theorem d2_leastLiked_29 : decode (mm_cc M2_leastLiked) 29 = .ok (.if_icmp .eq 24, 3) := by decide +kernel
theorem d2_leastLiked_32 : decode (mm_cc M2_leastLiked) 32 = .ok (.aload_n 0, 1) := by decide +kernel
theorem d2_leastLiked_33 : decode (mm_cc M2_leastLiked) 33 = .ok (.getfield 9, 3) := by decide +kernel
theorem d2_leastLiked_36 : decode (mm_cc M2_leastLiked) 36 = .ok (.iload_n 1, 1) := by decide +kernel
theorem d2_leastLiked_37 : decode (mm_cc M2_leastLiked) 37 = .ok (.iload_n 3, 1) := by decide +kernel
theorem d2_leastLiked_38 : decode (mm_cc M2_leastLiked) 38 = .ok (.invokevirtual 53, 3) := by decide +kernel
theorem d2_leastLiked_41 : decode (mm_cc M2_leastLiked) 41 = .ok (.aload_n 0, 1) := by decide +kernel
theorem d2_leastLiked_42 : decode (mm_cc M2_leastLiked) 42 = .ok (.getfield 9, 3) := by decide +kernel
theorem d2_leastLiked_45 : decode (mm_cc M2_leastLiked) 45 = .ok (.iload_n 1, 1) := by decide +kernel
theorem d2_leastLiked_46 : decode (mm_cc M2_leastLiked) 46 = .ok (.iload_n 2, 1) := by decide +kernel
theorem d2_leastLiked_47 : decode (mm_cc M2_leastLiked) 47 = .ok (.invokevirtual 53, 3) := by decide +kernel
theorem d2_leastLiked_50 : decode (mm_cc M2_leastLiked) 50 = .ok (.if_icmp .ge 5, 3) := by decide +kernel
theorem d2_leastLiked_53 : decode (mm_cc M2_leastLiked) 53 = .ok (.iload_n 3, 1) := by decide +kernel
theorem d2_leastLiked_54 : decode (mm_cc M2_leastLiked) 54 = .ok (.istore_n 2, 1) := by decide +kernel
theorem d2_leastLiked_55 : decode (mm_cc M2_leastLiked) 55 = .ok (.iinc 3 1, 3) := by decide +kernel
theorem d2_leastLiked_58 : decode (mm_cc M2_leastLiked) 58 = .ok (.goto (-54), 3) := by decide +kernel
theorem d2_leastLiked_61 : decode (mm_cc M2_leastLiked) 61 = .ok (.iload_n 2, 1) := by decide +kernel
theorem d2_leastLiked_62 : decode (mm_cc M2_leastLiked) 62 = .ok (.ireturn, 1) := by decide +kernel
theorem d2_mayGiveUp_0 : decode (mm_cc M2_mayGiveUp) 0 = .ok (.aload_n 0, 1) := by decide +kernel
theorem d2_mayGiveUp_1 : decode (mm_cc M2_mayGiveUp) 1 = .ok (.getfield 19, 3) := by decide +kernel
theorem d2_mayGiveUp_4 : decode (mm_cc M2_mayGiveUp) 4 = .ok (.iload_n 1, 1) := by decide +kernel
theorem d2_mayGiveUp_5 : decode (mm_cc M2_mayGiveUp) 5 = .ok (.iload_n 3, 1) := by decide +kernel
theorem d2_mayGiveUp_6 : decode (mm_cc M2_mayGiveUp) 6 = .ok (.invokevirtual 49, 3) := by decide +kernel
theorem d2_mayGiveUp_9 : decode (mm_cc M2_mayGiveUp) 9 = .ok (.ifCond .eq 37, 3) := by decide +kernel
theorem d2_mayGiveUp_12 : decode (mm_cc M2_mayGiveUp) 12 = .ok (.aload_n 0, 1) := by decide +kernel
theorem d2_mayGiveUp_13 : decode (mm_cc M2_mayGiveUp) 13 = .ok (.getfield 19, 3) := by decide +kernel
theorem d2_mayGiveUp_16 : decode (mm_cc M2_mayGiveUp) 16 = .ok (.getfield 81, 3) := by decide +kernel
theorem d2_mayGiveUp_19 : decode (mm_cc M2_mayGiveUp) 19 = .ok (.iload_n 1, 1) := by decide +kernel
theorem d2_mayGiveUp_20 : decode (mm_cc M2_mayGiveUp) 20 = .ok (.invokevirtual 96, 3) := by decide +kernel
theorem d2_mayGiveUp_23 : decode (mm_cc M2_mayGiveUp) 23 = .ok (.iconst (-1), 1) := by decide +kernel
theorem d2_mayGiveUp_24 : decode (mm_cc M2_mayGiveUp) 24 = .ok (.if_icmp .ne 22, 3) := by decide +kernel
theorem d2_mayGiveUp_27 : decode (mm_cc M2_mayGiveUp) 27 = .ok (.aload_n 0, 1) := by decide +kernel
theorem d2_mayGiveUp_28 : decode (mm_cc M2_mayGiveUp) 28 = .ok (.getfield 9, 3) := by decide +kernel
theorem d2_mayGiveUp_31 : decode (mm_cc M2_mayGiveUp) 31 = .ok (.getfield 102, 3) := by decide +kernel
theorem d2_mayGiveUp_34 : decode (mm_cc M2_mayGiveUp) 34 = .ok (.iload_n 2, 1) := by decide +kernel
theorem d2_mayGiveUp_35 : decode (mm_cc M2_mayGiveUp) 35 = .ok (.invokevirtual 96, 3) := by decide +kernel
theorem d2_mayGiveUp_38 : decode (mm_cc M2_mayGiveUp) 38 = .ok (.iload_n 3, 1) := by decide +kernel
theorem d2_mayGiveUp_39 : decode (mm_cc M2_mayGiveUp) 39 = .ok (.if_icmp .eq 7, 3) := by decide +kernel
theorem d2_mayGiveUp_42 : decode (mm_cc M2_mayGiveUp) 42 = .ok (.iconst 1, 1) := by decide +kernel
theorem d2_mayGiveUp_43 : decode (mm_cc M2_mayGiveUp) 43 = .ok (.goto 4, 3) := by decide +kernel
theorem d2_mayGiveUp_46 : decode (mm_cc M2_mayGiveUp) 46 = .ok (.iconst 0, 1) := by decide +kernel
theorem d2_mayGiveUp_47 : decode (mm_cc M2_mayGiveUp) 47 = .ok (.ireturn, 1) := by decide +kernel
theorem d2_mayLearn_0 : decode (mm_cc M2_mayLearn) 0 = .ok (.aload_n 0, 1) := by decide +kernel
theorem d2_mayLearn_1 : decode (mm_cc M2_mayLearn) 1 = .ok (.getfield 19, 3) := by decide +kernel
theorem d2_mayLearn_4 : decode (mm_cc M2_mayLearn) 4 = .ok (.iload_n 1, 1) := by decide +kernel
theorem d2_mayLearn_5 : decode (mm_cc M2_mayLearn) 5 = .ok (.invokevirtual 90, 3) := by decide +kernel
theorem d2_mayLearn_8 : decode (mm_cc M2_mayLearn) 8 = .ok (.ifCond .eq 41, 3) := by decide +kernel
theorem d2_mayLearn_11 : decode (mm_cc M2_mayLearn) 11 = .ok (.aload_n 0, 1) := by decide +kernel
theorem d2_mayLearn_12 : decode (mm_cc M2_mayLearn) 12 = .ok (.getfield 19, 3) := by decide +kernel
