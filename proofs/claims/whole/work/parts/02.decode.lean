theorem dF_init_0 : decode cF_init 0 = .ok (.aload_n 0, 1) := by decide +kernel
theorem dF_init_1 : decode cF_init 1 = .ok (.invokespecial 3, 3) := by decide +kernel
theorem dF_init_4 : decode cF_init 4 = .ok (.aload_n 0, 1) := by decide +kernel
theorem dF_init_5 : decode cF_init 5 = .ok (.bipush 6, 2) := by decide +kernel
theorem dF_init_7 : decode cF_init 7 = .ok (.newarray .int, 2) := by decide +kernel
theorem dF_init_9 : decode cF_init 9 = .ok (.putfield 9, 3) := by decide +kernel
theorem dF_init_12 : decode cF_init 12 = .ok (.aload_n 0, 1) := by decide +kernel
theorem dF_init_13 : decode cF_init 13 = .ok (.bipush 6, 2) := by decide +kernel
theorem dF_init_15 : decode cF_init 15 = .ok (.newarray .boolean, 2) := by decide +kernel
theorem dF_init_17 : decode cF_init 17 = .ok (.putfield 15, 3) := by decide +kernel
theorem dF_init_20 : decode cF_init 20 = .ok (.aload_n 0, 1) := by decide +kernel
theorem dF_init_21 : decode cF_init 21 = .ok (.bipush 64, 2) := by decide +kernel
theorem dF_init_23 : decode cF_init 23 = .ok (.newarray .int, 2) := by decide +kernel
theorem dF_init_25 : decode cF_init 25 = .ok (.putfield 19, 3) := by decide +kernel
theorem dF_init_28 : decode cF_init 28 = .ok (.aload_n 0, 1) := by decide +kernel
theorem dF_init_29 : decode cF_init 29 = .ok (.bipush 64, 2) := by decide +kernel
theorem dF_init_31 : decode cF_init 31 = .ok (.newarray .int, 2) := by decide +kernel
theorem dF_init_33 : decode cF_init 33 = .ok (.putfield 22, 3) := by decide +kernel
theorem dF_init_36 : decode cF_init 36 = .ok (.aload_n 0, 1) := by decide +kernel
theorem dF_init_37 : decode cF_init 37 = .ok (.iconst 0, 1) := by decide +kernel
theorem dF_init_38 : decode cF_init 38 = .ok (.putfield 25, 3) := by decide +kernel
theorem dF_init_41 : decode cF_init 41 = .ok (.return_, 1) := by decide +kernel
theorem dF_forgetAll_0 : decode cF_forgetAll 0 = .ok (.iconst 0, 1) := by decide +kernel
theorem dF_forgetAll_1 : decode cF_forgetAll 1 = .ok (.istore_n 1, 1) := by decide +kernel
theorem dF_forgetAll_2 : decode cF_forgetAll 2 = .ok (.iload_n 1, 1) := by decide +kernel
theorem dF_forgetAll_3 : decode cF_forgetAll 3 = .ok (.bipush 6, 2) := by decide +kernel
theorem dF_forgetAll_5 : decode cF_forgetAll 5 = .ok (.if_icmp .ge 16, 3) := by decide +kernel
theorem dF_forgetAll_8 : decode cF_forgetAll 8 = .ok (.aload_n 0, 1) := by decide +kernel
theorem dF_forgetAll_9 : decode cF_forgetAll 9 = .ok (.getfield 9, 3) := by decide +kernel
theorem dF_forgetAll_12 : decode cF_forgetAll 12 = .ok (.iload_n 1, 1) := by decide +kernel
theorem dF_forgetAll_13 : decode cF_forgetAll 13 = .ok (.iconst 0, 1) := by decide +kernel
theorem dF_forgetAll_14 : decode cF_forgetAll 14 = .ok (.iastore, 1) := by decide +kernel
theorem dF_forgetAll_15 : decode cF_forgetAll 15 = .ok (.iinc 1 1, 3) := by decide +kernel
theorem dF_forgetAll_18 : decode cF_forgetAll 18 = .ok (.goto (-16), 3) := by decide +kernel
theorem dF_forgetAll_21 : decode cF_forgetAll 21 = .ok (.aload_n 0, 1) := by decide +kernel
theorem dF_forgetAll_22 : decode cF_forgetAll 22 = .ok (.iconst 0, 1) := by decide +kernel
theorem dF_forgetAll_23 : decode cF_forgetAll 23 = .ok (.putfield 25, 3) := by decide +kernel
theorem dF_forgetAll_26 : decode cF_forgetAll 26 = .ok (.return_, 1) := by decide +kernel
theorem dF_hasOperand_0 : decode cF_hasOperand 0 = .ok (.iload_n 1, 1) := by decide +kernel
theorem dF_hasOperand_1 : decode cF_hasOperand 1 = .ok (.ifCond .lt 22, 3) := by decide +kernel
theorem dF_hasOperand_4 : decode cF_hasOperand 4 = .ok (.iload_n 1, 1) := by decide +kernel
theorem dF_hasOperand_5 : decode cF_hasOperand 5 = .ok (.bipush 6, 2) := by decide +kernel
theorem dF_hasOperand_7 : decode cF_hasOperand 7 = .ok (.if_icmp .ge 16, 3) := by decide +kernel
theorem dF_hasOperand_10 : decode cF_hasOperand 10 = .ok (.aload_n 0, 1) := by decide +kernel
theorem dF_hasOperand_11 : decode cF_hasOperand 11 = .ok (.getfield 9, 3) := by decide +kernel
theorem dF_hasOperand_14 : decode cF_hasOperand 14 = .ok (.iload_n 1, 1) := by decide +kernel
theorem dF_hasOperand_15 : decode cF_hasOperand 15 = .ok (.iaload, 1) := by decide +kernel
theorem dF_hasOperand_16 : decode cF_hasOperand 16 = .ok (.ifCond .le 7, 3) := by decide +kernel
theorem dF_hasOperand_19 : decode cF_hasOperand 19 = .ok (.iconst 1, 1) := by decide +kernel
theorem dF_hasOperand_20 : decode cF_hasOperand 20 = .ok (.goto 4, 3) := by decide +kernel
theorem dF_hasOperand_23 : decode cF_hasOperand 23 = .ok (.iconst 0, 1) := by decide +kernel
theorem dF_hasOperand_24 : decode cF_hasOperand 24 = .ok (.ireturn, 1) := by decide +kernel
theorem dF_addOperand_0 : decode cF_addOperand 0 = .ok (.aload_n 0, 1) := by decide +kernel
theorem dF_addOperand_1 : decode cF_addOperand 1 = .ok (.getfield 9, 3) := by decide +kernel
theorem dF_addOperand_4 : decode cF_addOperand 4 = .ok (.iload_n 1, 1) := by decide +kernel
theorem dF_addOperand_5 : decode cF_addOperand 5 = .ok (.iload_n 2, 1) := by decide +kernel
theorem dF_addOperand_6 : decode cF_addOperand 6 = .ok (.iastore, 1) := by decide +kernel
theorem dF_addOperand_7 : decode cF_addOperand 7 = .ok (.aload_n 0, 1) := by decide +kernel
theorem dF_addOperand_8 : decode cF_addOperand 8 = .ok (.getfield 15, 3) := by decide +kernel
theorem dF_addOperand_11 : decode cF_addOperand 11 = .ok (.iload_n 1, 1) := by decide +kernel
theorem dF_addOperand_12 : decode cF_addOperand 12 = .ok (.iload_n 3, 1) := by decide +kernel
theorem dF_addOperand_13 : decode cF_addOperand 13 = .ok (.bastore, 1) := by decide +kernel
theorem dF_addOperand_14 : decode cF_addOperand 14 = .ok (.return_, 1) := by decide +kernel
theorem dF_appendFixed_0 : decode cF_appendFixed 0 = .ok (.iload_n 1, 1) := by decide +kernel
theorem dF_appendFixed_1 : decode cF_appendFixed 1 = .ok (.iconst 1, 1) := by decide +kernel
theorem dF_appendFixed_2 : decode cF_appendFixed 2 = .ok (.isub, 1) := by decide +kernel
theorem dF_appendFixed_3 : decode cF_appendFixed 3 = .ok (.istore 4, 2) := by decide +kernel
theorem dF_appendFixed_5 : decode cF_appendFixed 5 = .ok (.iload 4, 2) := by decide +kernel
theorem dF_appendFixed_7 : decode cF_appendFixed 7 = .ok (.ifCond .lt 20, 3) := by decide +kernel
theorem dF_appendFixed_10 : decode cF_appendFixed 10 = .ok (.aload_n 0, 1) := by decide +kernel
theorem dF_appendFixed_11 : decode cF_appendFixed 11 = .ok (.iconst (-1), 1) := by decide +kernel
theorem dF_appendFixed_12 : decode cF_appendFixed 12 = .ok (.lload_n 2, 1) := by decide +kernel
theorem dF_appendFixed_13 : decode cF_appendFixed 13 = .ok (.iload 4, 2) := by decide +kernel
theorem dF_appendFixed_15 : decode cF_appendFixed 15 = .ok (.invokestatic 29, 3) := by decide +kernel
theorem dF_appendFixed_18 : decode cF_appendFixed 18 = .ok (.invokevirtual 33, 3) := by decide +kernel
theorem dF_appendFixed_21 : decode cF_appendFixed 21 = .ok (.iinc 4 (-1), 3) := by decide +kernel
theorem dF_appendFixed_24 : decode cF_appendFixed 24 = .ok (.goto (-19), 3) := by decide +kernel
theorem dF_appendFixed_27 : decode cF_appendFixed 27 = .ok (.return_, 1) := by decide +kernel
theorem dF_appendSlice_0 : decode cF_appendSlice 0 = .ok (.iload_n 2, 1) := by decide +kernel
theorem dF_appendSlice_1 : decode cF_appendSlice 1 = .ok (.istore 4, 2) := by decide +kernel
theorem dF_appendSlice_3 : decode cF_appendSlice 3 = .ok (.iload 4, 2) := by decide +kernel
theorem dF_appendSlice_5 : decode cF_appendSlice 5 = .ok (.iload_n 3, 1) := by decide +kernel
theorem dF_appendSlice_6 : decode cF_appendSlice 6 = .ok (.if_icmp .lt 16, 3) := by decide +kernel
theorem dF_appendSlice_9 : decode cF_appendSlice 9 = .ok (.aload_n 0, 1) := by decide +kernel
theorem dF_appendSlice_10 : decode cF_appendSlice 10 = .ok (.iload_n 1, 1) := by decide +kernel
theorem dF_appendSlice_11 : decode cF_appendSlice 11 = .ok (.iload 4, 2) := by decide +kernel
theorem dF_appendSlice_13 : decode cF_appendSlice 13 = .ok (.invokevirtual 33, 3) := by decide +kernel
theorem dF_appendSlice_16 : decode cF_appendSlice 16 = .ok (.iinc 4 (-1), 3) := by decide +kernel
theorem dF_appendSlice_19 : decode cF_appendSlice 19 = .ok (.goto (-16), 3) := by decide +kernel
theorem dF_appendSlice_22 : decode cF_appendSlice 22 = .ok (.return_, 1) := by decide +kernel
theorem dF_append_0 : decode cF_append 0 = .ok (.aload_n 0, 1) := by decide +kernel
theorem dF_append_1 : decode cF_append 1 = .ok (.getfield 19, 3) := by decide +kernel
theorem dF_append_4 : decode cF_append 4 = .ok (.aload_n 0, 1) := by decide +kernel
theorem dF_append_5 : decode cF_append 5 = .ok (.getfield 25, 3) := by decide +kernel
theorem dF_append_8 : decode cF_append 8 = .ok (.iload_n 1, 1) := by decide +kernel
theorem dF_append_9 : decode cF_append 9 = .ok (.iastore, 1) := by decide +kernel
theorem dF_append_10 : decode cF_append 10 = .ok (.aload_n 0, 1) := by decide +kernel
theorem dF_append_11 : decode cF_append 11 = .ok (.getfield 22, 3) := by decide +kernel
theorem dF_append_14 : decode cF_append 14 = .ok (.aload_n 0, 1) := by decide +kernel
theorem dF_append_15 : decode cF_append 15 = .ok (.getfield 25, 3) := by decide +kernel
theorem dF_append_18 : decode cF_append 18 = .ok (.iload_n 2, 1) := by decide +kernel
theorem dF_append_19 : decode cF_append 19 = .ok (.iastore, 1) := by decide +kernel
theorem dF_append_20 : decode cF_append 20 = .ok (.aload_n 0, 1) := by decide +kernel
theorem dF_append_21 : decode cF_append 21 = .ok (.dup, 1) := by decide +kernel
theorem dF_append_22 : decode cF_append 22 = .ok (.getfield 25, 3) := by decide +kernel
theorem dF_append_25 : decode cF_append 25 = .ok (.iconst 1, 1) := by decide +kernel
theorem dF_append_26 : decode cF_append 26 = .ok (.iadd, 1) := by decide +kernel
theorem dF_append_27 : decode cF_append 27 = .ok (.putfield 25, 3) := by decide +kernel
theorem dF_append_30 : decode cF_append 30 = .ok (.return_, 1) := by decide +kernel
theorem dF_holdsAny_0 : decode cF_holdsAny 0 = .ok (.iconst 0, 1) := by decide +kernel
theorem dF_holdsAny_1 : decode cF_holdsAny 1 = .ok (.istore 4, 2) := by decide +kernel
theorem dF_holdsAny_3 : decode cF_holdsAny 3 = .ok (.iload 4, 2) := by decide +kernel
theorem dF_holdsAny_5 : decode cF_holdsAny 5 = .ok (.aload_n 0, 1) := by decide +kernel
theorem dF_holdsAny_6 : decode cF_holdsAny 6 = .ok (.getfield 25, 3) := by decide +kernel
theorem dF_holdsAny_9 : decode cF_holdsAny 9 = .ok (.if_icmp .ge 44, 3) := by decide +kernel
theorem dF_holdsAny_12 : decode cF_holdsAny 12 = .ok (.aload_n 0, 1) := by decide +kernel
theorem dF_holdsAny_13 : decode cF_holdsAny 13 = .ok (.getfield 19, 3) := by decide +kernel
theorem dF_holdsAny_16 : decode cF_holdsAny 16 = .ok (.iload 4, 2) := by decide +kernel
theorem dF_holdsAny_18 : decode cF_holdsAny 18 = .ok (.iaload, 1) := by decide +kernel
theorem dF_holdsAny_19 : decode cF_holdsAny 19 = .ok (.iload_n 1, 1) := by decide +kernel
theorem dF_holdsAny_20 : decode cF_holdsAny 20 = .ok (.if_icmp .ne 27, 3) := by decide +kernel
theorem dF_holdsAny_23 : decode cF_holdsAny 23 = .ok (.aload_n 0, 1) := by decide +kernel
theorem dF_holdsAny_24 : decode cF_holdsAny 24 = .ok (.getfield 22, 3) := by decide +kernel
theorem dF_holdsAny_27 : decode cF_holdsAny 27 = .ok (.iload 4, 2) := by decide +kernel
theorem dF_holdsAny_29 : decode cF_holdsAny 29 = .ok (.iaload, 1) := by decide +kernel
theorem dF_holdsAny_30 : decode cF_holdsAny 30 = .ok (.iload_n 3, 1) := by decide +kernel
theorem dF_holdsAny_31 : decode cF_holdsAny 31 = .ok (.if_icmp .lt 16, 3) := by decide +kernel
theorem dF_holdsAny_34 : decode cF_holdsAny 34 = .ok (.aload_n 0, 1) := by decide +kernel
theorem dF_holdsAny_35 : decode cF_holdsAny 35 = .ok (.getfield 22, 3) := by decide +kernel
theorem dF_holdsAny_38 : decode cF_holdsAny 38 = .ok (.iload 4, 2) := by decide +kernel
theorem dF_holdsAny_40 : decode cF_holdsAny 40 = .ok (.iaload, 1) := by decide +kernel
theorem dF_holdsAny_41 : decode cF_holdsAny 41 = .ok (.iload_n 2, 1) := by decide +kernel
theorem dF_holdsAny_42 : decode cF_holdsAny 42 = .ok (.if_icmp .gt 5, 3) := by decide +kernel
theorem dF_holdsAny_45 : decode cF_holdsAny 45 = .ok (.iconst 1, 1) := by decide +kernel
theorem dF_holdsAny_46 : decode cF_holdsAny 46 = .ok (.ireturn, 1) := by decide +kernel
theorem dF_holdsAny_47 : decode cF_holdsAny 47 = .ok (.iinc 4 1, 3) := by decide +kernel
theorem dF_holdsAny_50 : decode cF_holdsAny 50 = .ok (.goto (-47), 3) := by decide +kernel
theorem dF_holdsAny_53 : decode cF_holdsAny 53 = .ok (.iconst 0, 1) := by decide +kernel
theorem dF_holdsAny_54 : decode cF_holdsAny 54 = .ok (.ireturn, 1) := by decide +kernel
theorem dF_fixedBits_0 : decode cF_fixedBits 0 = .ok (.iconst 0, 1) := by decide +kernel
theorem dF_fixedBits_1 : decode cF_fixedBits 1 = .ok (.istore_n 1, 1) := by decide +kernel
theorem dF_fixedBits_2 : decode cF_fixedBits 2 = .ok (.iconst 0, 1) := by decide +kernel
theorem dF_fixedBits_3 : decode cF_fixedBits 3 = .ok (.istore_n 2, 1) := by decide +kernel
theorem dF_fixedBits_4 : decode cF_fixedBits 4 = .ok (.iload_n 2, 1) := by decide +kernel
theorem dF_fixedBits_5 : decode cF_fixedBits 5 = .ok (.aload_n 0, 1) := by decide +kernel
theorem dF_fixedBits_6 : decode cF_fixedBits 6 = .ok (.getfield 25, 3) := by decide +kernel
theorem dF_fixedBits_9 : decode cF_fixedBits 9 = .ok (.if_icmp .ge 22, 3) := by decide +kernel
theorem dF_fixedBits_12 : decode cF_fixedBits 12 = .ok (.aload_n 0, 1) := by decide +kernel
theorem dF_fixedBits_13 : decode cF_fixedBits 13 = .ok (.getfield 19, 3) := by decide +kernel
theorem dF_fixedBits_16 : decode cF_fixedBits 16 = .ok (.iload_n 2, 1) := by decide +kernel
theorem dF_fixedBits_17 : decode cF_fixedBits 17 = .ok (.iaload, 1) := by decide +kernel
theorem dF_fixedBits_18 : decode cF_fixedBits 18 = .ok (.iconst (-1), 1) := by decide +kernel
theorem dF_fixedBits_19 : decode cF_fixedBits 19 = .ok (.if_icmp .ne 6, 3) := by decide +kernel
theorem dF_fixedBits_22 : decode cF_fixedBits 22 = .ok (.iinc 1 1, 3) := by decide +kernel
theorem dF_fixedBits_25 : decode cF_fixedBits 25 = .ok (.iinc 2 1, 3) := by decide +kernel
theorem dF_fixedBits_28 : decode cF_fixedBits 28 = .ok (.goto (-24), 3) := by decide +kernel
theorem dF_fixedBits_31 : decode cF_fixedBits 31 = .ok (.iload_n 1, 1) := by decide +kernel
theorem dF_fixedBits_32 : decode cF_fixedBits 32 = .ok (.ireturn, 1) := by decide +kernel
theorem dF_operands_0 : decode cF_operands 0 = .ok (.iconst 0, 1) := by decide +kernel
theorem dF_operands_1 : decode cF_operands 1 = .ok (.istore_n 1, 1) := by decide +kernel
theorem dF_operands_2 : decode cF_operands 2 = .ok (.iconst 0, 1) := by decide +kernel
theorem dF_operands_3 : decode cF_operands 3 = .ok (.istore_n 2, 1) := by decide +kernel
theorem dF_operands_4 : decode cF_operands 4 = .ok (.iload_n 2, 1) := by decide +kernel
theorem dF_operands_5 : decode cF_operands 5 = .ok (.bipush 6, 2) := by decide +kernel
theorem dF_operands_7 : decode cF_operands 7 = .ok (.if_icmp .ge 21, 3) := by decide +kernel
theorem dF_operands_10 : decode cF_operands 10 = .ok (.aload_n 0, 1) := by decide +kernel
theorem dF_operands_11 : decode cF_operands 11 = .ok (.getfield 9, 3) := by decide +kernel
theorem dF_operands_14 : decode cF_operands 14 = .ok (.iload_n 2, 1) := by decide +kernel
theorem dF_operands_15 : decode cF_operands 15 = .ok (.iaload, 1) := by decide +kernel
theorem dF_operands_16 : decode cF_operands 16 = .ok (.ifCond .le 6, 3) := by decide +kernel
theorem dF_operands_19 : decode cF_operands 19 = .ok (.iinc 1 1, 3) := by decide +kernel
theorem dF_operands_22 : decode cF_operands 22 = .ok (.iinc 2 1, 3) := by decide +kernel
theorem dF_operands_25 : decode cF_operands 25 = .ok (.goto (-21), 3) := by decide +kernel
theorem dF_operands_28 : decode cF_operands 28 = .ok (.iload_n 1, 1) := by decide +kernel
theorem dF_operands_29 : decode cF_operands 29 = .ok (.ireturn, 1) := by decide +kernel
theorem dF_missingBits_0 : decode cF_missingBits 0 = .ok (.iconst 0, 1) := by decide +kernel
theorem dF_missingBits_1 : decode cF_missingBits 1 = .ok (.istore_n 1, 1) := by decide +kernel
theorem dF_missingBits_2 : decode cF_missingBits 2 = .ok (.iconst 0, 1) := by decide +kernel
theorem dF_missingBits_3 : decode cF_missingBits 3 = .ok (.istore_n 2, 1) := by decide +kernel
theorem dF_missingBits_4 : decode cF_missingBits 4 = .ok (.iload_n 2, 1) := by decide +kernel
theorem dF_missingBits_5 : decode cF_missingBits 5 = .ok (.bipush 6, 2) := by decide +kernel
theorem dF_missingBits_7 : decode cF_missingBits 7 = .ok (.if_icmp .ge 18, 3) := by decide +kernel
theorem dF_missingBits_10 : decode cF_missingBits 10 = .ok (.iload_n 1, 1) := by decide +kernel
theorem dF_missingBits_11 : decode cF_missingBits 11 = .ok (.aload_n 0, 1) := by decide +kernel
theorem dF_missingBits_12 : decode cF_missingBits 12 = .ok (.getfield 9, 3) := by decide +kernel
theorem dF_missingBits_15 : decode cF_missingBits 15 = .ok (.iload_n 2, 1) := by decide +kernel
theorem dF_missingBits_16 : decode cF_missingBits 16 = .ok (.iaload, 1) := by decide +kernel
theorem dF_missingBits_17 : decode cF_missingBits 17 = .ok (.iadd, 1) := by decide +kernel
theorem dF_missingBits_18 : decode cF_missingBits 18 = .ok (.istore_n 1, 1) := by decide +kernel
theorem dF_missingBits_19 : decode cF_missingBits 19 = .ok (.iinc 2 1, 3) := by decide +kernel
theorem dF_missingBits_22 : decode cF_missingBits 22 = .ok (.goto (-18), 3) := by decide +kernel
theorem dF_missingBits_25 : decode cF_missingBits 25 = .ok (.iload_n 1, 1) := by decide +kernel
theorem dF_missingBits_26 : decode cF_missingBits 26 = .ok (.aload_n 0, 1) := by decide +kernel
theorem dF_missingBits_27 : decode cF_missingBits 27 = .ok (.getfield 25, 3) := by decide +kernel
theorem dF_missingBits_30 : decode cF_missingBits 30 = .ok (.aload_n 0, 1) := by decide +kernel
theorem dF_missingBits_31 : decode cF_missingBits 31 = .ok (.invokevirtual 37, 3) := by decide +kernel
theorem dF_missingBits_34 : decode cF_missingBits 34 = .ok (.isub, 1) := by decide +kernel
theorem dF_missingBits_35 : decode cF_missingBits 35 = .ok (.isub, 1) := by decide +kernel
theorem dF_missingBits_36 : decode cF_missingBits 36 = .ok (.ireturn, 1) := by decide +kernel
theorem dF_isWhole_0 : decode cF_isWhole 0 = .ok (.aload_n 0, 1) := by decide +kernel
theorem dF_isWhole_1 : decode cF_isWhole 1 = .ok (.invokevirtual 41, 3) := by decide +kernel
theorem dF_isWhole_4 : decode cF_isWhole 4 = .ok (.ifCond .ne 7, 3) := by decide +kernel
theorem dF_isWhole_7 : decode cF_isWhole 7 = .ok (.iconst 1, 1) := by decide +kernel
theorem dF_isWhole_8 : decode cF_isWhole 8 = .ok (.goto 4, 3) := by decide +kernel
theorem dF_isWhole_11 : decode cF_isWhole 11 = .ok (.iconst 0, 1) := by decide +kernel
theorem dF_isWhole_12 : decode cF_isWhole 12 = .ok (.ireturn, 1) := by decide +kernel
theorem dF_canBe_0 : decode cF_canBe 0 = .ok (.aload_n 0, 1) := by decide +kernel
theorem dF_canBe_1 : decode cF_canBe 1 = .ok (.getfield 9, 3) := by decide +kernel
theorem dF_canBe_4 : decode cF_canBe 4 = .ok (.iload_n 1, 1) := by decide +kernel
theorem dF_canBe_5 : decode cF_canBe 5 = .ok (.iaload, 1) := by decide +kernel
theorem dF_canBe_6 : decode cF_canBe 6 = .ok (.istore 4, 2) := by decide +kernel
theorem dF_canBe_8 : decode cF_canBe 8 = .ok (.iload 4, 2) := by decide +kernel
theorem dF_canBe_10 : decode cF_canBe 10 = .ok (.bipush 64, 2) := by decide +kernel
theorem dF_canBe_12 : decode cF_canBe 12 = .ok (.if_icmp .ne 5, 3) := by decide +kernel
theorem dF_canBe_15 : decode cF_canBe 15 = .ok (.iconst 1, 1) := by decide +kernel
theorem dF_canBe_16 : decode cF_canBe 16 = .ok (.ireturn, 1) := by decide +kernel
theorem dF_canBe_17 : decode cF_canBe 17 = .ok (.aload_n 0, 1) := by decide +kernel
theorem dF_canBe_18 : decode cF_canBe 18 = .ok (.getfield 15, 3) := by decide +kernel
theorem dF_canBe_21 : decode cF_canBe 21 = .ok (.iload_n 1, 1) := by decide +kernel
theorem dF_canBe_22 : decode cF_canBe 22 = .ok (.baload, 1) := by decide +kernel
theorem dF_canBe_23 : decode cF_canBe 23 = .ok (.ifCond .eq 33, 3) := by decide +kernel
theorem dF_canBe_26 : decode cF_canBe 26 = .ok (.lload_n 2, 1) := by decide +kernel
theorem dF_canBe_27 : decode cF_canBe 27 = .ok (.iload 4, 2) := by decide +kernel
theorem dF_canBe_29 : decode cF_canBe 29 = .ok (.iconst 1, 1) := by decide +kernel
theorem dF_canBe_30 : decode cF_canBe 30 = .ok (.isub, 1) := by decide +kernel
theorem dF_canBe_31 : decode cF_canBe 31 = .ok (.lshr, 1) := by decide +kernel
theorem dF_canBe_32 : decode cF_canBe 32 = .ok (.lstore 5, 2) := by decide +kernel
theorem dF_canBe_34 : decode cF_canBe 34 = .ok (.lload 5, 2) := by decide +kernel
theorem dF_canBe_36 : decode cF_canBe 36 = .ok (.lconst 0, 1) := by decide +kernel
theorem dF_canBe_37 : decode cF_canBe 37 = .ok (.lcmp, 1) := by decide +kernel
theorem dF_canBe_38 : decode cF_canBe 38 = .ok (.ifCond .eq 12, 3) := by decide +kernel
theorem dF_canBe_41 : decode cF_canBe 41 = .ok (.lload 5, 2) := by decide +kernel
theorem dF_canBe_43 : decode cF_canBe 43 = .ok (.ldc2_w 44, 3) := by decide +kernel
theorem dF_canBe_46 : decode cF_canBe 46 = .ok (.lcmp, 1) := by decide +kernel
theorem dF_canBe_47 : decode cF_canBe 47 = .ok (.ifCond .ne 7, 3) := by decide +kernel
theorem dF_canBe_50 : decode cF_canBe 50 = .ok (.iconst 1, 1) := by decide +kernel
theorem dF_canBe_51 : decode cF_canBe 51 = .ok (.goto 4, 3) := by decide +kernel
theorem dF_canBe_54 : decode cF_canBe 54 = .ok (.iconst 0, 1) := by decide +kernel
theorem dF_canBe_55 : decode cF_canBe 55 = .ok (.ireturn, 1) := by decide +kernel
theorem dF_canBe_56 : decode cF_canBe 56 = .ok (.lload_n 2, 1) := by decide +kernel
theorem dF_canBe_57 : decode cF_canBe 57 = .ok (.iload 4, 2) := by decide +kernel
theorem dF_canBe_59 : decode cF_canBe 59 = .ok (.lushr, 1) := by decide +kernel
theorem dF_canBe_60 : decode cF_canBe 60 = .ok (.lconst 0, 1) := by decide +kernel
theorem dF_canBe_61 : decode cF_canBe 61 = .ok (.lcmp, 1) := by decide +kernel
theorem dF_canBe_62 : decode cF_canBe 62 = .ok (.ifCond .ne 7, 3) := by decide +kernel
theorem dF_canBe_65 : decode cF_canBe 65 = .ok (.iconst 1, 1) := by decide +kernel
theorem dF_canBe_66 : decode cF_canBe 66 = .ok (.goto 4, 3) := by decide +kernel
theorem dF_canBe_69 : decode cF_canBe 69 = .ok (.iconst 0, 1) := by decide +kernel
theorem dF_canBe_70 : decode cF_canBe 70 = .ok (.ireturn, 1) := by decide +kernel
theorem dF_canBeAll_0 : decode cF_canBeAll 0 = .ok (.iconst 0, 1) := by decide +kernel
theorem dF_canBeAll_1 : decode cF_canBeAll 1 = .ok (.istore_n 2, 1) := by decide +kernel
theorem dF_canBeAll_2 : decode cF_canBeAll 2 = .ok (.iload_n 2, 1) := by decide +kernel
theorem dF_canBeAll_3 : decode cF_canBeAll 3 = .ok (.bipush 6, 2) := by decide +kernel
theorem dF_canBeAll_5 : decode cF_canBeAll 5 = .ok (.if_icmp .ge 31, 3) := by decide +kernel
theorem dF_canBeAll_8 : decode cF_canBeAll 8 = .ok (.aload_n 0, 1) := by decide +kernel
theorem dF_canBeAll_9 : decode cF_canBeAll 9 = .ok (.getfield 9, 3) := by decide +kernel
theorem dF_canBeAll_12 : decode cF_canBeAll 12 = .ok (.iload_n 2, 1) := by decide +kernel
theorem dF_canBeAll_13 : decode cF_canBeAll 13 = .ok (.iaload, 1) := by decide +kernel
theorem dF_canBeAll_14 : decode cF_canBeAll 14 = .ok (.ifCond .le 16, 3) := by decide +kernel
theorem dF_canBeAll_17 : decode cF_canBeAll 17 = .ok (.aload_n 0, 1) := by decide +kernel
theorem dF_canBeAll_18 : decode cF_canBeAll 18 = .ok (.iload_n 2, 1) := by decide +kernel
theorem dF_canBeAll_19 : decode cF_canBeAll 19 = .ok (.aload_n 1, 1) := by decide +kernel
theorem dF_canBeAll_20 : decode cF_canBeAll 20 = .ok (.iload_n 2, 1) := by decide +kernel
theorem dF_canBeAll_21 : decode cF_canBeAll 21 = .ok (.laload, 1) := by decide +kernel
theorem dF_canBeAll_22 : decode cF_canBeAll 22 = .ok (.invokevirtual 46, 3) := by decide +kernel
theorem dF_canBeAll_25 : decode cF_canBeAll 25 = .ok (.ifCond .ne 5, 3) := by decide +kernel
theorem dF_canBeAll_28 : decode cF_canBeAll 28 = .ok (.iconst 0, 1) := by decide +kernel
theorem dF_canBeAll_29 : decode cF_canBeAll 29 = .ok (.ireturn, 1) := by decide +kernel
theorem dF_canBeAll_30 : decode cF_canBeAll 30 = .ok (.iinc 2 1, 3) := by decide +kernel
theorem dF_canBeAll_33 : decode cF_canBeAll 33 = .ok (.goto (-31), 3) := by decide +kernel
theorem dF_canBeAll_36 : decode cF_canBeAll 36 = .ok (.iconst 1, 1) := by decide +kernel
theorem dF_canBeAll_37 : decode cF_canBeAll 37 = .ok (.ireturn, 1) := by decide +kernel
theorem dF_wordOf_0 : decode cF_wordOf 0 = .ok (.lconst 0, 1) := by decide +kernel
theorem dF_wordOf_1 : decode cF_wordOf 1 = .ok (.lstore_n 2, 1) := by decide +kernel
theorem dF_wordOf_2 : decode cF_wordOf 2 = .ok (.iconst 0, 1) := by decide +kernel
theorem dF_wordOf_3 : decode cF_wordOf 3 = .ok (.istore 4, 2) := by decide +kernel
theorem dF_wordOf_5 : decode cF_wordOf 5 = .ok (.iload 4, 2) := by decide +kernel
theorem dF_wordOf_7 : decode cF_wordOf 7 = .ok (.aload_n 0, 1) := by decide +kernel
theorem dF_wordOf_8 : decode cF_wordOf 8 = .ok (.getfield 25, 3) := by decide +kernel
theorem dF_wordOf_11 : decode cF_wordOf 11 = .ok (.if_icmp .ge 59, 3) := by decide +kernel
theorem dF_wordOf_14 : decode cF_wordOf 14 = .ok (.aload_n 0, 1) := by decide +kernel
theorem dF_wordOf_15 : decode cF_wordOf 15 = .ok (.getfield 19, 3) := by decide +kernel
theorem dF_wordOf_18 : decode cF_wordOf 18 = .ok (.iload 4, 2) := by decide +kernel
theorem dF_wordOf_20 : decode cF_wordOf 20 = .ok (.iaload, 1) := by decide +kernel
theorem dF_wordOf_21 : decode cF_wordOf 21 = .ok (.iconst (-1), 1) := by decide +kernel
theorem dF_wordOf_22 : decode cF_wordOf 22 = .ok (.if_icmp .ne 13, 3) := by decide +kernel
theorem dF_wordOf_25 : decode cF_wordOf 25 = .ok (.aload_n 0, 1) := by decide +kernel
theorem dF_wordOf_26 : decode cF_wordOf 26 = .ok (.getfield 22, 3) := by decide +kernel
theorem dF_wordOf_29 : decode cF_wordOf 29 = .ok (.iload 4, 2) := by decide +kernel
theorem dF_wordOf_31 : decode cF_wordOf 31 = .ok (.iaload, 1) := by decide +kernel
theorem dF_wordOf_32 : decode cF_wordOf 32 = .ok (.goto 22, 3) := by decide +kernel
theorem dF_wordOf_35 : decode cF_wordOf 35 = .ok (.aload_n 1, 1) := by decide +kernel
theorem dF_wordOf_36 : decode cF_wordOf 36 = .ok (.aload_n 0, 1) := by decide +kernel
theorem dF_wordOf_37 : decode cF_wordOf 37 = .ok (.getfield 19, 3) := by decide +kernel
theorem dF_wordOf_40 : decode cF_wordOf 40 = .ok (.iload 4, 2) := by decide +kernel
theorem dF_wordOf_42 : decode cF_wordOf 42 = .ok (.iaload, 1) := by decide +kernel
theorem dF_wordOf_43 : decode cF_wordOf 43 = .ok (.laload, 1) := by decide +kernel
theorem dF_wordOf_44 : decode cF_wordOf 44 = .ok (.aload_n 0, 1) := by decide +kernel
theorem dF_wordOf_45 : decode cF_wordOf 45 = .ok (.getfield 22, 3) := by decide +kernel
theorem dF_wordOf_48 : decode cF_wordOf 48 = .ok (.iload 4, 2) := by decide +kernel
theorem dF_wordOf_50 : decode cF_wordOf 50 = .ok (.iaload, 1) := by decide +kernel
theorem dF_wordOf_51 : decode cF_wordOf 51 = .ok (.invokestatic 29, 3) := by decide +kernel
theorem dF_wordOf_54 : decode cF_wordOf 54 = .ok (.istore 5, 2) := by decide +kernel
theorem dF_wordOf_56 : decode cF_wordOf 56 = .ok (.lload_n 2, 1) := by decide +kernel
theorem dF_wordOf_57 : decode cF_wordOf 57 = .ok (.iconst 1, 1) := by decide +kernel
theorem dF_wordOf_58 : decode cF_wordOf 58 = .ok (.lshl, 1) := by decide +kernel
theorem dF_wordOf_59 : decode cF_wordOf 59 = .ok (.iload 5, 2) := by decide +kernel
theorem dF_wordOf_61 : decode cF_wordOf 61 = .ok (.i2l, 1) := by decide +kernel
theorem dF_wordOf_62 : decode cF_wordOf 62 = .ok (.lor, 1) := by decide +kernel
theorem dF_wordOf_63 : decode cF_wordOf 63 = .ok (.lstore_n 2, 1) := by decide +kernel
theorem dF_wordOf_64 : decode cF_wordOf 64 = .ok (.iinc 4 1, 3) := by decide +kernel
theorem dF_wordOf_67 : decode cF_wordOf 67 = .ok (.goto (-62), 3) := by decide +kernel
theorem dF_wordOf_70 : decode cF_wordOf 70 = .ok (.lload_n 2, 1) := by decide +kernel
theorem dF_wordOf_71 : decode cF_wordOf 71 = .ok (.lreturn, 1) := by decide +kernel
theorem dF_numberIn_0 : decode cF_numberIn 0 = .ok (.lconst 0, 1) := by decide +kernel
theorem dF_numberIn_1 : decode cF_numberIn 1 = .ok (.lstore 4, 2) := by decide +kernel
theorem dF_numberIn_3 : decode cF_numberIn 3 = .ok (.iconst 0, 1) := by decide +kernel
theorem dF_numberIn_4 : decode cF_numberIn 4 = .ok (.istore 6, 2) := by decide +kernel
theorem dF_numberIn_6 : decode cF_numberIn 6 = .ok (.iload 6, 2) := by decide +kernel
theorem dF_numberIn_8 : decode cF_numberIn 8 = .ok (.aload_n 0, 1) := by decide +kernel
theorem dF_numberIn_9 : decode cF_numberIn 9 = .ok (.getfield 25, 3) := by decide +kernel
theorem dF_numberIn_12 : decode cF_numberIn 12 = .ok (.if_icmp .ge 47, 3) := by decide +kernel
theorem dF_numberIn_15 : decode cF_numberIn 15 = .ok (.aload_n 0, 1) := by decide +kernel
theorem dF_numberIn_16 : decode cF_numberIn 16 = .ok (.getfield 19, 3) := by decide +kernel
theorem dF_numberIn_19 : decode cF_numberIn 19 = .ok (.iload 6, 2) := by decide +kernel
theorem dF_numberIn_21 : decode cF_numberIn 21 = .ok (.iaload, 1) := by decide +kernel
theorem dF_numberIn_22 : decode cF_numberIn 22 = .ok (.iload_n 1, 1) := by decide +kernel
theorem dF_numberIn_23 : decode cF_numberIn 23 = .ok (.if_icmp .ne 30, 3) := by decide +kernel
theorem dF_numberIn_26 : decode cF_numberIn 26 = .ok (.lload 4, 2) := by decide +kernel
theorem dF_numberIn_28 : decode cF_numberIn 28 = .ok (.lload_n 2, 1) := by decide +kernel
theorem dF_numberIn_29 : decode cF_numberIn 29 = .ok (.aload_n 0, 1) := by decide +kernel
theorem dF_numberIn_30 : decode cF_numberIn 30 = .ok (.getfield 25, 3) := by decide +kernel
theorem dF_numberIn_33 : decode cF_numberIn 33 = .ok (.iconst 1, 1) := by decide +kernel
theorem dF_numberIn_34 : decode cF_numberIn 34 = .ok (.isub, 1) := by decide +kernel
theorem dF_numberIn_35 : decode cF_numberIn 35 = .ok (.iload 6, 2) := by decide +kernel
theorem dF_numberIn_37 : decode cF_numberIn 37 = .ok (.isub, 1) := by decide +kernel
theorem dF_numberIn_38 : decode cF_numberIn 38 = .ok (.invokestatic 29, 3) := by decide +kernel
theorem dF_numberIn_41 : decode cF_numberIn 41 = .ok (.i2l, 1) := by decide +kernel
theorem dF_numberIn_42 : decode cF_numberIn 42 = .ok (.aload_n 0, 1) := by decide +kernel
theorem dF_numberIn_43 : decode cF_numberIn 43 = .ok (.getfield 22, 3) := by decide +kernel
theorem dF_numberIn_46 : decode cF_numberIn 46 = .ok (.iload 6, 2) := by decide +kernel
theorem dF_numberIn_48 : decode cF_numberIn 48 = .ok (.iaload, 1) := by decide +kernel
theorem dF_numberIn_49 : decode cF_numberIn 49 = .ok (.lshl, 1) := by decide +kernel
theorem dF_numberIn_50 : decode cF_numberIn 50 = .ok (.lor, 1) := by decide +kernel
theorem dF_numberIn_51 : decode cF_numberIn 51 = .ok (.lstore 4, 2) := by decide +kernel
theorem dF_numberIn_53 : decode cF_numberIn 53 = .ok (.iinc 6 1, 3) := by decide +kernel
theorem dF_numberIn_56 : decode cF_numberIn 56 = .ok (.goto (-50), 3) := by decide +kernel
theorem dF_numberIn_59 : decode cF_numberIn 59 = .ok (.bipush 64, 2) := by decide +kernel
theorem dF_numberIn_61 : decode cF_numberIn 61 = .ok (.aload_n 0, 1) := by decide +kernel
theorem dF_numberIn_62 : decode cF_numberIn 62 = .ok (.getfield 9, 3) := by decide +kernel
theorem dF_numberIn_65 : decode cF_numberIn 65 = .ok (.iload_n 1, 1) := by decide +kernel
theorem dF_numberIn_66 : decode cF_numberIn 66 = .ok (.iaload, 1) := by decide +kernel
theorem dF_numberIn_67 : decode cF_numberIn 67 = .ok (.isub, 1) := by decide +kernel
theorem dF_numberIn_68 : decode cF_numberIn 68 = .ok (.istore 6, 2) := by decide +kernel
theorem dF_numberIn_70 : decode cF_numberIn 70 = .ok (.aload_n 0, 1) := by decide +kernel
theorem dF_numberIn_71 : decode cF_numberIn 71 = .ok (.getfield 15, 3) := by decide +kernel
theorem dF_numberIn_74 : decode cF_numberIn 74 = .ok (.iload_n 1, 1) := by decide +kernel
theorem dF_numberIn_75 : decode cF_numberIn 75 = .ok (.baload, 1) := by decide +kernel
theorem dF_numberIn_76 : decode cF_numberIn 76 = .ok (.ifCond .eq 14, 3) := by decide +kernel
theorem dF_numberIn_79 : decode cF_numberIn 79 = .ok (.lload 4, 2) := by decide +kernel
theorem dF_numberIn_81 : decode cF_numberIn 81 = .ok (.iload 6, 2) := by decide +kernel
theorem dF_numberIn_83 : decode cF_numberIn 83 = .ok (.lshl, 1) := by decide +kernel
theorem dF_numberIn_84 : decode cF_numberIn 84 = .ok (.iload 6, 2) := by decide +kernel
theorem dF_numberIn_86 : decode cF_numberIn 86 = .ok (.lshr, 1) := by decide +kernel
theorem dF_numberIn_87 : decode cF_numberIn 87 = .ok (.goto 5, 3) := by decide +kernel
theorem dF_numberIn_90 : decode cF_numberIn 90 = .ok (.lload 4, 2) := by decide +kernel
theorem dF_numberIn_92 : decode cF_numberIn 92 = .ok (.lreturn, 1) := by decide +kernel
theorem dF_matches_0 : decode cF_matches 0 = .ok (.iconst 0, 1) := by decide +kernel
theorem dF_matches_1 : decode cF_matches 1 = .ok (.istore_n 3, 1) := by decide +kernel
theorem dF_matches_2 : decode cF_matches 2 = .ok (.iload_n 3, 1) := by decide +kernel
theorem dF_matches_3 : decode cF_matches 3 = .ok (.bipush 64, 2) := by decide +kernel
theorem dF_matches_5 : decode cF_matches 5 = .ok (.if_icmp .ge 24, 3) := by decide +kernel
theorem dF_matches_8 : decode cF_matches 8 = .ok (.aload_n 0, 1) := by decide +kernel
theorem dF_matches_9 : decode cF_matches 9 = .ok (.iload_n 3, 1) := by decide +kernel
theorem dF_matches_10 : decode cF_matches 10 = .ok (.lload_n 1, 1) := by decide +kernel
theorem dF_matches_11 : decode cF_matches 11 = .ok (.iload_n 3, 1) := by decide +kernel
theorem dF_matches_12 : decode cF_matches 12 = .ok (.invokestatic 29, 3) := by decide +kernel
theorem dF_matches_15 : decode cF_matches 15 = .ok (.invokevirtual 50, 3) := by decide +kernel
theorem dF_matches_18 : decode cF_matches 18 = .ok (.ifCond .ne 5, 3) := by decide +kernel
theorem dF_matches_21 : decode cF_matches 21 = .ok (.iconst 0, 1) := by decide +kernel
theorem dF_matches_22 : decode cF_matches 22 = .ok (.ireturn, 1) := by decide +kernel
theorem dF_matches_23 : decode cF_matches 23 = .ok (.iinc 3 1, 3) := by decide +kernel
theorem dF_matches_26 : decode cF_matches 26 = .ok (.goto (-24), 3) := by decide +kernel
theorem dF_matches_29 : decode cF_matches 29 = .ok (.iconst 1, 1) := by decide +kernel
theorem dF_matches_30 : decode cF_matches 30 = .ok (.ireturn, 1) := by decide +kernel
theorem dF_sharesWordWith_0 : decode cF_sharesWordWith 0 = .ok (.iconst 0, 1) := by decide +kernel
theorem dF_sharesWordWith_1 : decode cF_sharesWordWith 1 = .ok (.istore_n 2, 1) := by decide +kernel
theorem dF_sharesWordWith_2 : decode cF_sharesWordWith 2 = .ok (.iload_n 2, 1) := by decide +kernel
theorem dF_sharesWordWith_3 : decode cF_sharesWordWith 3 = .ok (.bipush 64, 2) := by decide +kernel
theorem dF_sharesWordWith_5 : decode cF_sharesWordWith 5 = .ok (.if_icmp .ge 69, 3) := by decide +kernel
theorem dF_sharesWordWith_8 : decode cF_sharesWordWith 8 = .ok (.aload_n 0, 1) := by decide +kernel
theorem dF_sharesWordWith_9 : decode cF_sharesWordWith 9 = .ok (.iload_n 2, 1) := by decide +kernel
theorem dF_sharesWordWith_10 : decode cF_sharesWordWith 10 = .ok (.iconst 0, 1) := by decide +kernel
theorem dF_sharesWordWith_11 : decode cF_sharesWordWith 11 = .ok (.invokevirtual 50, 3) := by decide +kernel
theorem dF_sharesWordWith_14 : decode cF_sharesWordWith 14 = .ok (.ifCond .eq 16, 3) := by decide +kernel
theorem dF_sharesWordWith_17 : decode cF_sharesWordWith 17 = .ok (.aload_n 1, 1) := by decide +kernel
theorem dF_sharesWordWith_18 : decode cF_sharesWordWith 18 = .ok (.iload_n 2, 1) := by decide +kernel
theorem dF_sharesWordWith_19 : decode cF_sharesWordWith 19 = .ok (.iconst 0, 1) := by decide +kernel
theorem dF_sharesWordWith_20 : decode cF_sharesWordWith 20 = .ok (.invokevirtual 50, 3) := by decide +kernel
theorem dF_sharesWordWith_23 : decode cF_sharesWordWith 23 = .ok (.ifCond .eq 7, 3) := by decide +kernel
theorem dF_sharesWordWith_26 : decode cF_sharesWordWith 26 = .ok (.iconst 1, 1) := by decide +kernel
theorem dF_sharesWordWith_27 : decode cF_sharesWordWith 27 = .ok (.goto 4, 3) := by decide +kernel
theorem dF_sharesWordWith_30 : decode cF_sharesWordWith 30 = .ok (.iconst 0, 1) := by decide +kernel
theorem dF_sharesWordWith_31 : decode cF_sharesWordWith 31 = .ok (.istore_n 3, 1) := by decide +kernel
theorem dF_sharesWordWith_32 : decode cF_sharesWordWith 32 = .ok (.aload_n 0, 1) := by decide +kernel
theorem dF_sharesWordWith_33 : decode cF_sharesWordWith 33 = .ok (.iload_n 2, 1) := by decide +kernel
theorem dF_sharesWordWith_34 : decode cF_sharesWordWith 34 = .ok (.iconst 1, 1) := by decide +kernel
theorem dF_sharesWordWith_35 : decode cF_sharesWordWith 35 = .ok (.invokevirtual 50, 3) := by decide +kernel
theorem dF_sharesWordWith_38 : decode cF_sharesWordWith 38 = .ok (.ifCond .eq 16, 3) := by decide +kernel
theorem dF_sharesWordWith_41 : decode cF_sharesWordWith 41 = .ok (.aload_n 1, 1) := by decide +kernel
theorem dF_sharesWordWith_42 : decode cF_sharesWordWith 42 = .ok (.iload_n 2, 1) := by decide +kernel
theorem dF_sharesWordWith_43 : decode cF_sharesWordWith 43 = .ok (.iconst 1, 1) := by decide +kernel
theorem dF_sharesWordWith_44 : decode cF_sharesWordWith 44 = .ok (.invokevirtual 50, 3) := by decide +kernel
theorem dF_sharesWordWith_47 : decode cF_sharesWordWith 47 = .ok (.ifCond .eq 7, 3) := by decide +kernel
theorem dF_sharesWordWith_50 : decode cF_sharesWordWith 50 = .ok (.iconst 1, 1) := by decide +kernel
theorem dF_sharesWordWith_51 : decode cF_sharesWordWith 51 = .ok (.goto 4, 3) := by decide +kernel
theorem dF_sharesWordWith_54 : decode cF_sharesWordWith 54 = .ok (.iconst 0, 1) := by decide +kernel
theorem dF_sharesWordWith_55 : decode cF_sharesWordWith 55 = .ok (.istore 4, 2) := by decide +kernel
theorem dF_sharesWordWith_57 : decode cF_sharesWordWith 57 = .ok (.iload_n 3, 1) := by decide +kernel
theorem dF_sharesWordWith_58 : decode cF_sharesWordWith 58 = .ok (.ifCond .ne 10, 3) := by decide +kernel
theorem dF_sharesWordWith_61 : decode cF_sharesWordWith 61 = .ok (.iload 4, 2) := by decide +kernel
theorem dF_sharesWordWith_63 : decode cF_sharesWordWith 63 = .ok (.ifCond .ne 5, 3) := by decide +kernel
theorem dF_sharesWordWith_66 : decode cF_sharesWordWith 66 = .ok (.iconst 0, 1) := by decide +kernel
theorem dF_sharesWordWith_67 : decode cF_sharesWordWith 67 = .ok (.ireturn, 1) := by decide +kernel
theorem dF_sharesWordWith_68 : decode cF_sharesWordWith 68 = .ok (.iinc 2 1, 3) := by decide +kernel
theorem dF_sharesWordWith_71 : decode cF_sharesWordWith 71 = .ok (.goto (-69), 3) := by decide +kernel
theorem dF_sharesWordWith_74 : decode cF_sharesWordWith 74 = .ok (.iconst 1, 1) := by decide +kernel
theorem dF_sharesWordWith_75 : decode cF_sharesWordWith 75 = .ok (.ireturn, 1) := by decide +kernel
theorem dF_allows_0 : decode cF_allows 0 = .ok (.iload_n 1, 1) := by decide +kernel
theorem dF_allows_1 : decode cF_allows 1 = .ok (.aload_n 0, 1) := by decide +kernel
theorem dF_allows_2 : decode cF_allows 2 = .ok (.getfield 25, 3) := by decide +kernel
theorem dF_allows_5 : decode cF_allows 5 = .ok (.if_icmp .lt 13, 3) := by decide +kernel
theorem dF_allows_8 : decode cF_allows 8 = .ok (.iload_n 2, 1) := by decide +kernel
theorem dF_allows_9 : decode cF_allows 9 = .ok (.ifCond .ne 7, 3) := by decide +kernel
theorem dF_allows_12 : decode cF_allows 12 = .ok (.iconst 1, 1) := by decide +kernel
theorem dF_allows_13 : decode cF_allows 13 = .ok (.goto 4, 3) := by decide +kernel
theorem dF_allows_16 : decode cF_allows 16 = .ok (.iconst 0, 1) := by decide +kernel
theorem dF_allows_17 : decode cF_allows 17 = .ok (.ireturn, 1) := by decide +kernel
theorem dF_allows_18 : decode cF_allows 18 = .ok (.aload_n 0, 1) := by decide +kernel
theorem dF_allows_19 : decode cF_allows 19 = .ok (.getfield 25, 3) := by decide +kernel
theorem dF_allows_22 : decode cF_allows 22 = .ok (.iconst 1, 1) := by decide +kernel
theorem dF_allows_23 : decode cF_allows 23 = .ok (.isub, 1) := by decide +kernel
theorem dF_allows_24 : decode cF_allows 24 = .ok (.iload_n 1, 1) := by decide +kernel
theorem dF_allows_25 : decode cF_allows 25 = .ok (.isub, 1) := by decide +kernel
theorem dF_allows_26 : decode cF_allows 26 = .ok (.istore_n 3, 1) := by decide +kernel
theorem dF_allows_27 : decode cF_allows 27 = .ok (.aload_n 0, 1) := by decide +kernel
theorem dF_allows_28 : decode cF_allows 28 = .ok (.getfield 19, 3) := by decide +kernel
theorem dF_allows_31 : decode cF_allows 31 = .ok (.iload_n 3, 1) := by decide +kernel
theorem dF_allows_32 : decode cF_allows 32 = .ok (.iaload, 1) := by decide +kernel
theorem dF_allows_33 : decode cF_allows 33 = .ok (.iconst (-1), 1) := by decide +kernel
theorem dF_allows_34 : decode cF_allows 34 = .ok (.if_icmp .ne 13, 3) := by decide +kernel
theorem dF_allows_37 : decode cF_allows 37 = .ok (.aload_n 0, 1) := by decide +kernel
theorem dF_allows_38 : decode cF_allows 38 = .ok (.getfield 22, 3) := by decide +kernel
theorem dF_allows_41 : decode cF_allows 41 = .ok (.iload_n 3, 1) := by decide +kernel
theorem dF_allows_42 : decode cF_allows 42 = .ok (.iaload, 1) := by decide +kernel
theorem dF_allows_43 : decode cF_allows 43 = .ok (.iload_n 2, 1) := by decide +kernel
theorem dF_allows_44 : decode cF_allows 44 = .ok (.if_icmp .ne 7, 3) := by decide +kernel
theorem dF_allows_47 : decode cF_allows 47 = .ok (.iconst 1, 1) := by decide +kernel
theorem dF_allows_48 : decode cF_allows 48 = .ok (.goto 4, 3) := by decide +kernel
theorem dF_allows_51 : decode cF_allows 51 = .ok (.iconst 0, 1) := by decide +kernel
theorem dF_allows_52 : decode cF_allows 52 = .ok (.ireturn, 1) := by decide +kernel
theorem dF_bitOf_0 : decode cF_bitOf 0 = .ok (.lload_n 0, 1) := by decide +kernel
theorem dF_bitOf_1 : decode cF_bitOf 1 = .ok (.iload_n 2, 1) := by decide +kernel
theorem dF_bitOf_2 : decode cF_bitOf 2 = .ok (.lushr, 1) := by decide +kernel
theorem dF_bitOf_3 : decode cF_bitOf 3 = .ok (.lconst 1, 1) := by decide +kernel
theorem dF_bitOf_4 : decode cF_bitOf 4 = .ok (.land, 1) := by decide +kernel
theorem dF_bitOf_5 : decode cF_bitOf 5 = .ok (.l2i, 1) := by decide +kernel
theorem dF_bitOf_6 : decode cF_bitOf 6 = .ok (.ireturn, 1) := by decide +kernel
theorem dX_init_0 : decode cX_init 0 = .ok (.aload_n 0, 1) := by decide +kernel
theorem dX_init_1 : decode cX_init 1 = .ok (.invokespecial 1, 3) := by decide +kernel
theorem dX_init_4 : decode cX_init 4 = .ok (.aload_n 0, 1) := by decide +kernel
theorem dX_init_5 : decode cX_init 5 = .ok (.bipush 8, 2) := by decide +kernel
theorem dX_init_7 : decode cX_init 7 = .ok (.anewarray 9, 3) := by decide +kernel
theorem dX_init_10 : decode cX_init 10 = .ok (.putfield 11, 3) := by decide +kernel
theorem dX_init_13 : decode cX_init 13 = .ok (.iconst 0, 1) := by decide +kernel
theorem dX_init_14 : decode cX_init 14 = .ok (.istore_n 1, 1) := by decide +kernel
theorem dX_init_15 : decode cX_init 15 = .ok (.iload_n 1, 1) := by decide +kernel
theorem dX_init_16 : decode cX_init 16 = .ok (.bipush 8, 2) := by decide +kernel
theorem dX_init_18 : decode cX_init 18 = .ok (.if_icmp .ge 22, 3) := by decide +kernel
theorem dX_init_21 : decode cX_init 21 = .ok (.aload_n 0, 1) := by decide +kernel
theorem dX_init_22 : decode cX_init 22 = .ok (.getfield 11, 3) := by decide +kernel
theorem dX_init_25 : decode cX_init 25 = .ok (.iload_n 1, 1) := by decide +kernel
theorem dX_init_26 : decode cX_init 26 = .ok (.new 9, 3) := by decide +kernel
theorem dX_init_29 : decode cX_init 29 = .ok (.dup, 1) := by decide +kernel
theorem dX_init_30 : decode cX_init 30 = .ok (.invokespecial 15, 3) := by decide +kernel
theorem dX_init_33 : decode cX_init 33 = .ok (.aastore, 1) := by decide +kernel
theorem dX_init_34 : decode cX_init 34 = .ok (.iinc 1 1, 3) := by decide +kernel
theorem dX_init_37 : decode cX_init 37 = .ok (.goto (-22), 3) := by decide +kernel
theorem dX_init_40 : decode cX_init 40 = .ok (.aload_n 0, 1) := by decide +kernel
theorem dX_init_41 : decode cX_init 41 = .ok (.bipush 6, 2) := by decide +kernel
theorem dX_init_43 : decode cX_init 43 = .ok (.newarray .long, 2) := by decide +kernel
theorem dX_init_45 : decode cX_init 45 = .ok (.putfield 16, 3) := by decide +kernel
theorem dX_init_48 : decode cX_init 48 = .ok (.return_, 1) := by decide +kernel
theorem dX_clear_0 : decode cX_clear 0 = .ok (.aload_n 0, 1) := by decide +kernel
theorem dX_clear_1 : decode cX_clear 1 = .ok (.iload_n 1, 1) := by decide +kernel
theorem dX_clear_2 : decode cX_clear 2 = .ok (.invokevirtual 20, 3) := by decide +kernel
theorem dX_clear_5 : decode cX_clear 5 = .ok (.invokevirtual 24, 3) := by decide +kernel
theorem dX_clear_8 : decode cX_clear 8 = .ok (.return_, 1) := by decide +kernel
theorem dX_operand_0 : decode cX_operand 0 = .ok (.aload_n 0, 1) := by decide +kernel
theorem dX_operand_1 : decode cX_operand 1 = .ok (.iload_n 1, 1) := by decide +kernel
theorem dX_operand_2 : decode cX_operand 2 = .ok (.invokevirtual 20, 3) := by decide +kernel
theorem dX_operand_5 : decode cX_operand 5 = .ok (.astore 5, 2) := by decide +kernel
theorem dX_operand_7 : decode cX_operand 7 = .ok (.iload_n 2, 1) := by decide +kernel
theorem dX_operand_8 : decode cX_operand 8 = .ok (.invokestatic 27, 3) := by decide +kernel
theorem dX_operand_11 : decode cX_operand 11 = .ok (.iload_n 3, 1) := by decide +kernel
theorem dX_operand_12 : decode cX_operand 12 = .ok (.invokestatic 31, 3) := by decide +kernel
theorem dX_operand_15 : decode cX_operand 15 = .ok (.aload 5, 2) := by decide +kernel
theorem dX_operand_17 : decode cX_operand 17 = .ok (.iload_n 2, 1) := by decide +kernel
theorem dX_operand_18 : decode cX_operand 18 = .ok (.invokevirtual 34, 3) := by decide +kernel
theorem dX_operand_21 : decode cX_operand 21 = .ok (.ifCond .eq 13, 3) := by decide +kernel
theorem dX_operand_24 : decode cX_operand 24 = .ok (.new 38, 3) := by decide +kernel
theorem dX_operand_27 : decode cX_operand 27 = .ok (.dup, 1) := by decide +kernel
theorem dX_operand_28 : decode cX_operand 28 = .ok (.ldc 40, 2) := by decide +kernel
theorem dX_operand_30 : decode cX_operand 30 = .ok (.invokespecial 42, 3) := by decide +kernel
theorem dX_operand_33 : decode cX_operand 33 = .ok (.athrow, 1) := by decide +kernel
theorem dX_operand_34 : decode cX_operand 34 = .ok (.aload 5, 2) := by decide +kernel
theorem dX_operand_36 : decode cX_operand 36 = .ok (.iload_n 2, 1) := by decide +kernel
theorem dX_operand_37 : decode cX_operand 37 = .ok (.iload_n 3, 1) := by decide +kernel
theorem dX_operand_38 : decode cX_operand 38 = .ok (.iload 4, 2) := by decide +kernel
theorem dX_operand_40 : decode cX_operand 40 = .ok (.invokevirtual 45, 3) := by decide +kernel
theorem dX_operand_43 : decode cX_operand 43 = .ok (.return_, 1) := by decide +kernel
theorem dX_fixed_0 : decode cX_fixed 0 = .ok (.aload_n 0, 1) := by decide +kernel
theorem dX_fixed_1 : decode cX_fixed 1 = .ok (.iload_n 1, 1) := by decide +kernel
theorem dX_fixed_2 : decode cX_fixed 2 = .ok (.invokevirtual 20, 3) := by decide +kernel
theorem dX_fixed_5 : decode cX_fixed 5 = .ok (.astore 5, 2) := by decide +kernel
theorem dX_fixed_7 : decode cX_fixed 7 = .ok (.iload_n 2, 1) := by decide +kernel
theorem dX_fixed_8 : decode cX_fixed 8 = .ok (.invokestatic 31, 3) := by decide +kernel
theorem dX_fixed_11 : decode cX_fixed 11 = .ok (.aload 5, 2) := by decide +kernel
theorem dX_fixed_13 : decode cX_fixed 13 = .ok (.iload_n 2, 1) := by decide +kernel
theorem dX_fixed_14 : decode cX_fixed 14 = .ok (.invokestatic 49, 3) := by decide +kernel
theorem dX_fixed_17 : decode cX_fixed 17 = .ok (.aload 5, 2) := by decide +kernel
theorem dX_fixed_19 : decode cX_fixed 19 = .ok (.iload_n 2, 1) := by decide +kernel
theorem dX_fixed_20 : decode cX_fixed 20 = .ok (.lload_n 3, 1) := by decide +kernel
theorem dX_fixed_21 : decode cX_fixed 21 = .ok (.invokevirtual 53, 3) := by decide +kernel
theorem dX_fixed_24 : decode cX_fixed 24 = .ok (.aload 5, 2) := by decide +kernel
theorem dX_fixed_26 : decode cX_fixed 26 = .ok (.getfield 57, 3) := by decide +kernel
theorem dX_fixed_29 : decode cX_fixed 29 = .ok (.ireturn, 1) := by decide +kernel
theorem dX_slice_0 : decode cX_slice 0 = .ok (.aload_n 0, 1) := by decide +kernel
theorem dX_slice_1 : decode cX_slice 1 = .ok (.iload_n 1, 1) := by decide +kernel
theorem dX_slice_2 : decode cX_slice 2 = .ok (.iload_n 2, 1) := by decide +kernel
theorem dX_slice_3 : decode cX_slice 3 = .ok (.invokevirtual 61, 3) := by decide +kernel
theorem dX_slice_6 : decode cX_slice 6 = .ok (.astore 5, 2) := by decide +kernel
theorem dX_slice_8 : decode cX_slice 8 = .ok (.iload_n 3, 1) := by decide +kernel
theorem dX_slice_9 : decode cX_slice 9 = .ok (.iload 4, 2) := by decide +kernel
theorem dX_slice_11 : decode cX_slice 11 = .ok (.if_icmp .ge 13, 3) := by decide +kernel
theorem dX_slice_14 : decode cX_slice 14 = .ok (.new 65, 3) := by decide +kernel
theorem dX_slice_17 : decode cX_slice 17 = .ok (.dup, 1) := by decide +kernel
theorem dX_slice_18 : decode cX_slice 18 = .ok (.ldc 67, 2) := by decide +kernel
theorem dX_slice_20 : decode cX_slice 20 = .ok (.invokespecial 69, 3) := by decide +kernel
theorem dX_slice_23 : decode cX_slice 23 = .ok (.athrow, 1) := by decide +kernel
theorem dX_slice_24 : decode cX_slice 24 = .ok (.iload 4, 2) := by decide +kernel
theorem dX_slice_26 : decode cX_slice 26 = .ok (.ifCond .lt 14, 3) := by decide +kernel
theorem dX_slice_29 : decode cX_slice 29 = .ok (.iload_n 3, 1) := by decide +kernel
theorem dX_slice_30 : decode cX_slice 30 = .ok (.aload 5, 2) := by decide +kernel
theorem dX_slice_32 : decode cX_slice 32 = .ok (.getfield 70, 3) := by decide +kernel
theorem dX_slice_35 : decode cX_slice 35 = .ok (.iload_n 2, 1) := by decide +kernel
theorem dX_slice_36 : decode cX_slice 36 = .ok (.iaload, 1) := by decide +kernel
theorem dX_slice_37 : decode cX_slice 37 = .ok (.if_icmp .lt 13, 3) := by decide +kernel
theorem dX_slice_40 : decode cX_slice 40 = .ok (.new 74, 3) := by decide +kernel
theorem dX_slice_43 : decode cX_slice 43 = .ok (.dup, 1) := by decide +kernel
theorem dX_slice_44 : decode cX_slice 44 = .ok (.ldc 76, 2) := by decide +kernel
theorem dX_slice_46 : decode cX_slice 46 = .ok (.invokespecial 78, 3) := by decide +kernel
theorem dX_slice_49 : decode cX_slice 49 = .ok (.athrow, 1) := by decide +kernel
theorem dX_slice_50 : decode cX_slice 50 = .ok (.aload 5, 2) := by decide +kernel
theorem dX_slice_52 : decode cX_slice 52 = .ok (.iload_n 3, 1) := by decide +kernel
theorem dX_slice_53 : decode cX_slice 53 = .ok (.iload 4, 2) := by decide +kernel
theorem dX_slice_55 : decode cX_slice 55 = .ok (.isub, 1) := by decide +kernel
theorem dX_slice_56 : decode cX_slice 56 = .ok (.iconst 1, 1) := by decide +kernel
theorem dX_slice_57 : decode cX_slice 57 = .ok (.iadd, 1) := by decide +kernel
theorem dX_slice_58 : decode cX_slice 58 = .ok (.invokestatic 49, 3) := by decide +kernel
theorem dX_slice_61 : decode cX_slice 61 = .ok (.aload 5, 2) := by decide +kernel
theorem dX_slice_63 : decode cX_slice 63 = .ok (.iload_n 2, 1) := by decide +kernel
theorem dX_slice_64 : decode cX_slice 64 = .ok (.iload_n 3, 1) := by decide +kernel
theorem dX_slice_65 : decode cX_slice 65 = .ok (.iload 4, 2) := by decide +kernel
theorem dX_slice_67 : decode cX_slice 67 = .ok (.invokevirtual 79, 3) := by decide +kernel
theorem dX_slice_70 : decode cX_slice 70 = .ok (.ifCond .eq 13, 3) := by decide +kernel
theorem dX_slice_73 : decode cX_slice 73 = .ok (.new 38, 3) := by decide +kernel
theorem dX_slice_76 : decode cX_slice 76 = .ok (.dup, 1) := by decide +kernel
theorem dX_slice_77 : decode cX_slice 77 = .ok (.ldc 83, 2) := by decide +kernel
theorem dX_slice_79 : decode cX_slice 79 = .ok (.invokespecial 42, 3) := by decide +kernel
theorem dX_slice_82 : decode cX_slice 82 = .ok (.athrow, 1) := by decide +kernel
theorem dX_slice_83 : decode cX_slice 83 = .ok (.aload 5, 2) := by decide +kernel
theorem dX_slice_85 : decode cX_slice 85 = .ok (.iload_n 2, 1) := by decide +kernel
theorem dX_slice_86 : decode cX_slice 86 = .ok (.iload_n 3, 1) := by decide +kernel
theorem dX_slice_87 : decode cX_slice 87 = .ok (.iload 4, 2) := by decide +kernel
theorem dX_slice_89 : decode cX_slice 89 = .ok (.invokevirtual 85, 3) := by decide +kernel
theorem dX_slice_92 : decode cX_slice 92 = .ok (.aload 5, 2) := by decide +kernel
theorem dX_slice_94 : decode cX_slice 94 = .ok (.getfield 57, 3) := by decide +kernel
theorem dX_slice_97 : decode cX_slice 97 = .ok (.ireturn, 1) := by decide +kernel
theorem dX_whole_0 : decode cX_whole 0 = .ok (.aload_n 0, 1) := by decide +kernel
theorem dX_whole_1 : decode cX_whole 1 = .ok (.iload_n 1, 1) := by decide +kernel
theorem dX_whole_2 : decode cX_whole 2 = .ok (.invokevirtual 20, 3) := by decide +kernel
theorem dX_whole_5 : decode cX_whole 5 = .ok (.invokevirtual 89, 3) := by decide +kernel
theorem dX_whole_8 : decode cX_whole 8 = .ok (.ireturn, 1) := by decide +kernel
theorem dX_number_0 : decode cX_number 0 = .ok (.iload_n 1, 1) := by decide +kernel
theorem dX_number_1 : decode cX_number 1 = .ok (.invokestatic 27, 3) := by decide +kernel
theorem dX_number_4 : decode cX_number 4 = .ok (.aload_n 0, 1) := by decide +kernel
theorem dX_number_5 : decode cX_number 5 = .ok (.getfield 16, 3) := by decide +kernel
theorem dX_number_8 : decode cX_number 8 = .ok (.iload_n 1, 1) := by decide +kernel
theorem dX_number_9 : decode cX_number 9 = .ok (.lload_n 2, 1) := by decide +kernel
theorem dX_number_10 : decode cX_number 10 = .ok (.lastore, 1) := by decide +kernel
theorem dX_number_11 : decode cX_number 11 = .ok (.return_, 1) := by decide +kernel
theorem dX_fits_0 : decode cX_fits 0 = .ok (.aload_n 0, 1) := by decide +kernel
theorem dX_fits_1 : decode cX_fits 1 = .ok (.iload_n 1, 1) := by decide +kernel
theorem dX_fits_2 : decode cX_fits 2 = .ok (.iload_n 2, 1) := by decide +kernel
theorem dX_fits_3 : decode cX_fits 3 = .ok (.invokevirtual 61, 3) := by decide +kernel
theorem dX_fits_6 : decode cX_fits 6 = .ok (.iload_n 2, 1) := by decide +kernel
theorem dX_fits_7 : decode cX_fits 7 = .ok (.lload_n 3, 1) := by decide +kernel
theorem dX_fits_8 : decode cX_fits 8 = .ok (.invokevirtual 93, 3) := by decide +kernel
theorem dX_fits_11 : decode cX_fits 11 = .ok (.ireturn, 1) := by decide +kernel
theorem dX_encode_0 : decode cX_encode 0 = .ok (.aload_n 0, 1) := by decide +kernel
theorem dX_encode_1 : decode cX_encode 1 = .ok (.iload_n 1, 1) := by decide +kernel
theorem dX_encode_2 : decode cX_encode 2 = .ok (.invokevirtual 20, 3) := by decide +kernel
theorem dX_encode_5 : decode cX_encode 5 = .ok (.astore_n 2, 1) := by decide +kernel
theorem dX_encode_6 : decode cX_encode 6 = .ok (.aload_n 2, 1) := by decide +kernel
theorem dX_encode_7 : decode cX_encode 7 = .ok (.invokestatic 97, 3) := by decide +kernel
theorem dX_encode_10 : decode cX_encode 10 = .ok (.aload_n 2, 1) := by decide +kernel
theorem dX_encode_11 : decode cX_encode 11 = .ok (.aload_n 0, 1) := by decide +kernel
theorem dX_encode_12 : decode cX_encode 12 = .ok (.getfield 16, 3) := by decide +kernel
theorem dX_encode_15 : decode cX_encode 15 = .ok (.invokevirtual 101, 3) := by decide +kernel
theorem dX_encode_18 : decode cX_encode 18 = .ok (.ifCond .ne 13, 3) := by decide +kernel
theorem dX_encode_21 : decode cX_encode 21 = .ok (.new 105, 3) := by decide +kernel
theorem dX_encode_24 : decode cX_encode 24 = .ok (.dup, 1) := by decide +kernel
theorem dX_encode_25 : decode cX_encode 25 = .ok (.ldc 107, 2) := by decide +kernel
theorem dX_encode_27 : decode cX_encode 27 = .ok (.invokespecial 109, 3) := by decide +kernel
theorem dX_encode_30 : decode cX_encode 30 = .ok (.athrow, 1) := by decide +kernel
theorem dX_encode_31 : decode cX_encode 31 = .ok (.aload_n 2, 1) := by decide +kernel
theorem dX_encode_32 : decode cX_encode 32 = .ok (.aload_n 0, 1) := by decide +kernel
theorem dX_encode_33 : decode cX_encode 33 = .ok (.getfield 16, 3) := by decide +kernel
theorem dX_encode_36 : decode cX_encode 36 = .ok (.invokevirtual 110, 3) := by decide +kernel
theorem dX_encode_39 : decode cX_encode 39 = .ok (.lreturn, 1) := by decide +kernel
theorem dX_is_0 : decode cX_is 0 = .ok (.aload_n 0, 1) := by decide +kernel
theorem dX_is_1 : decode cX_is 1 = .ok (.iload_n 1, 1) := by decide +kernel
theorem dX_is_2 : decode cX_is 2 = .ok (.invokevirtual 20, 3) := by decide +kernel
theorem dX_is_5 : decode cX_is 5 = .ok (.lload_n 2, 1) := by decide +kernel
theorem dX_is_6 : decode cX_is 6 = .ok (.invokevirtual 114, 3) := by decide +kernel
theorem dX_is_9 : decode cX_is 9 = .ok (.ireturn, 1) := by decide +kernel
theorem dX_decode_0 : decode cX_decode 0 = .ok (.aload_n 0, 1) := by decide +kernel
theorem dX_decode_1 : decode cX_decode 1 = .ok (.iload_n 1, 1) := by decide +kernel
theorem dX_decode_2 : decode cX_decode 2 = .ok (.iload_n 2, 1) := by decide +kernel
theorem dX_decode_3 : decode cX_decode 3 = .ok (.invokevirtual 61, 3) := by decide +kernel
theorem dX_decode_6 : decode cX_decode 6 = .ok (.astore 5, 2) := by decide +kernel
theorem dX_decode_8 : decode cX_decode 8 = .ok (.aload 5, 2) := by decide +kernel
theorem dX_decode_10 : decode cX_decode 10 = .ok (.invokestatic 97, 3) := by decide +kernel
theorem dX_decode_13 : decode cX_decode 13 = .ok (.aload 5, 2) := by decide +kernel
theorem dX_decode_15 : decode cX_decode 15 = .ok (.lload_n 3, 1) := by decide +kernel
theorem dX_decode_16 : decode cX_decode 16 = .ok (.invokevirtual 114, 3) := by decide +kernel
theorem dX_decode_19 : decode cX_decode 19 = .ok (.ifCond .ne 13, 3) := by decide +kernel
theorem dX_decode_22 : decode cX_decode 22 = .ok (.new 105, 3) := by decide +kernel
theorem dX_decode_25 : decode cX_decode 25 = .ok (.dup, 1) := by decide +kernel
theorem dX_decode_26 : decode cX_decode 26 = .ok (.ldc 118, 2) := by decide +kernel
theorem dX_decode_28 : decode cX_decode 28 = .ok (.invokespecial 109, 3) := by decide +kernel
theorem dX_decode_31 : decode cX_decode 31 = .ok (.athrow, 1) := by decide +kernel
theorem dX_decode_32 : decode cX_decode 32 = .ok (.aload 5, 2) := by decide +kernel
theorem dX_decode_34 : decode cX_decode 34 = .ok (.iload_n 2, 1) := by decide +kernel
theorem dX_decode_35 : decode cX_decode 35 = .ok (.lload_n 3, 1) := by decide +kernel
theorem dX_decode_36 : decode cX_decode 36 = .ok (.invokevirtual 120, 3) := by decide +kernel
theorem dX_decode_39 : decode cX_decode 39 = .ok (.lreturn, 1) := by decide +kernel
theorem dX_meet_0 : decode cX_meet 0 = .ok (.aload_n 0, 1) := by decide +kernel
theorem dX_meet_1 : decode cX_meet 1 = .ok (.iload_n 1, 1) := by decide +kernel
theorem dX_meet_2 : decode cX_meet 2 = .ok (.invokevirtual 20, 3) := by decide +kernel
theorem dX_meet_5 : decode cX_meet 5 = .ok (.aload_n 0, 1) := by decide +kernel
theorem dX_meet_6 : decode cX_meet 6 = .ok (.iload_n 2, 1) := by decide +kernel
theorem dX_meet_7 : decode cX_meet 7 = .ok (.invokevirtual 20, 3) := by decide +kernel
theorem dX_meet_10 : decode cX_meet 10 = .ok (.invokevirtual 124, 3) := by decide +kernel
theorem dX_meet_13 : decode cX_meet 13 = .ok (.ireturn, 1) := by decide +kernel
theorem dX_count_0 : decode cX_count 0 = .ok (.aload_n 0, 1) := by decide +kernel
theorem dX_count_1 : decode cX_count 1 = .ok (.iload_n 1, 1) := by decide +kernel
theorem dX_count_2 : decode cX_count 2 = .ok (.invokevirtual 20, 3) := by decide +kernel
theorem dX_count_5 : decode cX_count 5 = .ok (.astore_n 3, 1) := by decide +kernel
theorem dX_count_6 : decode cX_count 6 = .ok (.iload_n 2, 1) := by decide +kernel
theorem dX_count_7 : decode cX_count 7 = .ok (.tableswitch 49 0 3 #[29, 34, 39, 44], 29) := by decide +kernel
theorem dX_count_36 : decode cX_count 36 = .ok (.aload_n 3, 1) := by decide +kernel
theorem dX_count_37 : decode cX_count 37 = .ok (.getfield 57, 3) := by decide +kernel
theorem dX_count_40 : decode cX_count 40 = .ok (.ireturn, 1) := by decide +kernel
theorem dX_count_41 : decode cX_count 41 = .ok (.aload_n 3, 1) := by decide +kernel
theorem dX_count_42 : decode cX_count 42 = .ok (.invokevirtual 128, 3) := by decide +kernel
theorem dX_count_45 : decode cX_count 45 = .ok (.ireturn, 1) := by decide +kernel
theorem dX_count_46 : decode cX_count 46 = .ok (.aload_n 3, 1) := by decide +kernel
theorem dX_count_47 : decode cX_count 47 = .ok (.invokevirtual 132, 3) := by decide +kernel
theorem dX_count_50 : decode cX_count 50 = .ok (.ireturn, 1) := by decide +kernel
theorem dX_count_51 : decode cX_count 51 = .ok (.aload_n 3, 1) := by decide +kernel
theorem dX_count_52 : decode cX_count 52 = .ok (.invokevirtual 135, 3) := by decide +kernel
theorem dX_count_55 : decode cX_count 55 = .ok (.ireturn, 1) := by decide +kernel
theorem dX_count_56 : decode cX_count 56 = .ok (.new 65, 3) := by decide +kernel
theorem dX_count_59 : decode cX_count 59 = .ok (.dup, 1) := by decide +kernel
theorem dX_count_60 : decode cX_count 60 = .ok (.ldc 138, 2) := by decide +kernel
theorem dX_count_62 : decode cX_count 62 = .ok (.invokespecial 69, 3) := by decide +kernel
theorem dX_count_65 : decode cX_count 65 = .ok (.athrow, 1) := by decide +kernel
theorem dX_formAt_0 : decode cX_formAt 0 = .ok (.iload_n 1, 1) := by decide +kernel
theorem dX_formAt_1 : decode cX_formAt 1 = .ok (.ifCond .lt 9, 3) := by decide +kernel
theorem dX_formAt_4 : decode cX_formAt 4 = .ok (.iload_n 1, 1) := by decide +kernel
theorem dX_formAt_5 : decode cX_formAt 5 = .ok (.bipush 8, 2) := by decide +kernel
theorem dX_formAt_7 : decode cX_formAt 7 = .ok (.if_icmp .lt 13, 3) := by decide +kernel
theorem dX_formAt_10 : decode cX_formAt 10 = .ok (.new 65, 3) := by decide +kernel
theorem dX_formAt_13 : decode cX_formAt 13 = .ok (.dup, 1) := by decide +kernel
theorem dX_formAt_14 : decode cX_formAt 14 = .ok (.ldc 140, 2) := by decide +kernel
theorem dX_formAt_16 : decode cX_formAt 16 = .ok (.invokespecial 69, 3) := by decide +kernel
theorem dX_formAt_19 : decode cX_formAt 19 = .ok (.athrow, 1) := by decide +kernel
theorem dX_formAt_20 : decode cX_formAt 20 = .ok (.aload_n 0, 1) := by decide +kernel
theorem dX_formAt_21 : decode cX_formAt 21 = .ok (.getfield 11, 3) := by decide +kernel
theorem dX_formAt_24 : decode cX_formAt 24 = .ok (.iload_n 1, 1) := by decide +kernel
theorem dX_formAt_25 : decode cX_formAt 25 = .ok (.aaload, 1) := by decide +kernel
theorem dX_formAt_26 : decode cX_formAt 26 = .ok (.areturn, 1) := by decide +kernel
theorem dX_formWith_0 : decode cX_formWith 0 = .ok (.aload_n 0, 1) := by decide +kernel
theorem dX_formWith_1 : decode cX_formWith 1 = .ok (.iload_n 1, 1) := by decide +kernel
theorem dX_formWith_2 : decode cX_formWith 2 = .ok (.invokevirtual 20, 3) := by decide +kernel
theorem dX_formWith_5 : decode cX_formWith 5 = .ok (.astore_n 3, 1) := by decide +kernel
theorem dX_formWith_6 : decode cX_formWith 6 = .ok (.aload_n 3, 1) := by decide +kernel
theorem dX_formWith_7 : decode cX_formWith 7 = .ok (.iload_n 2, 1) := by decide +kernel
theorem dX_formWith_8 : decode cX_formWith 8 = .ok (.invokevirtual 34, 3) := by decide +kernel
theorem dX_formWith_11 : decode cX_formWith 11 = .ok (.ifCond .ne 13, 3) := by decide +kernel
theorem dX_formWith_14 : decode cX_formWith 14 = .ok (.new 65, 3) := by decide +kernel
theorem dX_formWith_17 : decode cX_formWith 17 = .ok (.dup, 1) := by decide +kernel
theorem dX_formWith_18 : decode cX_formWith 18 = .ok (.ldc 142, 2) := by decide +kernel
theorem dX_formWith_20 : decode cX_formWith 20 = .ok (.invokespecial 69, 3) := by decide +kernel
theorem dX_formWith_23 : decode cX_formWith 23 = .ok (.athrow, 1) := by decide +kernel
theorem dX_formWith_24 : decode cX_formWith 24 = .ok (.aload_n 3, 1) := by decide +kernel
theorem dX_formWith_25 : decode cX_formWith 25 = .ok (.areturn, 1) := by decide +kernel
theorem dX_checkOperandIndex_0 : decode cX_checkOperandIndex 0 = .ok (.iload_n 0, 1) := by decide +kernel
theorem dX_checkOperandIndex_1 : decode cX_checkOperandIndex 1 = .ok (.ifCond .lt 9, 3) := by decide +kernel
theorem dX_checkOperandIndex_4 : decode cX_checkOperandIndex 4 = .ok (.iload_n 0, 1) := by decide +kernel
theorem dX_checkOperandIndex_5 : decode cX_checkOperandIndex 5 = .ok (.bipush 6, 2) := by decide +kernel
theorem dX_checkOperandIndex_7 : decode cX_checkOperandIndex 7 = .ok (.if_icmp .lt 13, 3) := by decide +kernel
theorem dX_checkOperandIndex_10 : decode cX_checkOperandIndex 10 = .ok (.new 65, 3) := by decide +kernel
theorem dX_checkOperandIndex_13 : decode cX_checkOperandIndex 13 = .ok (.dup, 1) := by decide +kernel
theorem dX_checkOperandIndex_14 : decode cX_checkOperandIndex 14 = .ok (.ldc 144, 2) := by decide +kernel
theorem dX_checkOperandIndex_16 : decode cX_checkOperandIndex 16 = .ok (.invokespecial 69, 3) := by decide +kernel
theorem dX_checkOperandIndex_19 : decode cX_checkOperandIndex 19 = .ok (.athrow, 1) := by decide +kernel
theorem dX_checkOperandIndex_20 : decode cX_checkOperandIndex 20 = .ok (.return_, 1) := by decide +kernel
theorem dX_checkBitCount_0 : decode cX_checkBitCount 0 = .ok (.iload_n 0, 1) := by decide +kernel
theorem dX_checkBitCount_1 : decode cX_checkBitCount 1 = .ok (.iconst 1, 1) := by decide +kernel
theorem dX_checkBitCount_2 : decode cX_checkBitCount 2 = .ok (.if_icmp .lt 9, 3) := by decide +kernel
theorem dX_checkBitCount_5 : decode cX_checkBitCount 5 = .ok (.iload_n 0, 1) := by decide +kernel
theorem dX_checkBitCount_6 : decode cX_checkBitCount 6 = .ok (.bipush 64, 2) := by decide +kernel
theorem dX_checkBitCount_8 : decode cX_checkBitCount 8 = .ok (.if_icmp .le 13, 3) := by decide +kernel
theorem dX_checkBitCount_11 : decode cX_checkBitCount 11 = .ok (.new 65, 3) := by decide +kernel
theorem dX_checkBitCount_14 : decode cX_checkBitCount 14 = .ok (.dup, 1) := by decide +kernel
theorem dX_checkBitCount_15 : decode cX_checkBitCount 15 = .ok (.ldc 146, 2) := by decide +kernel
theorem dX_checkBitCount_17 : decode cX_checkBitCount 17 = .ok (.invokespecial 69, 3) := by decide +kernel
theorem dX_checkBitCount_20 : decode cX_checkBitCount 20 = .ok (.athrow, 1) := by decide +kernel
theorem dX_checkBitCount_21 : decode cX_checkBitCount 21 = .ok (.return_, 1) := by decide +kernel
theorem dX_checkRoom_0 : decode cX_checkRoom 0 = .ok (.iload_n 1, 1) := by decide +kernel
theorem dX_checkRoom_1 : decode cX_checkRoom 1 = .ok (.bipush 64, 2) := by decide +kernel
theorem dX_checkRoom_3 : decode cX_checkRoom 3 = .ok (.aload_n 0, 1) := by decide +kernel
theorem dX_checkRoom_4 : decode cX_checkRoom 4 = .ok (.getfield 57, 3) := by decide +kernel
theorem dX_checkRoom_7 : decode cX_checkRoom 7 = .ok (.isub, 1) := by decide +kernel
theorem dX_checkRoom_8 : decode cX_checkRoom 8 = .ok (.if_icmp .le 13, 3) := by decide +kernel
theorem dX_checkRoom_11 : decode cX_checkRoom 11 = .ok (.new 74, 3) := by decide +kernel
theorem dX_checkRoom_14 : decode cX_checkRoom 14 = .ok (.dup, 1) := by decide +kernel
theorem dX_checkRoom_15 : decode cX_checkRoom 15 = .ok (.ldc 148, 2) := by decide +kernel
theorem dX_checkRoom_17 : decode cX_checkRoom 17 = .ok (.invokespecial 78, 3) := by decide +kernel
theorem dX_checkRoom_20 : decode cX_checkRoom 20 = .ok (.athrow, 1) := by decide +kernel
theorem dX_checkRoom_21 : decode cX_checkRoom 21 = .ok (.return_, 1) := by decide +kernel
theorem dX_checkWhole_0 : decode cX_checkWhole 0 = .ok (.aload_n 0, 1) := by decide +kernel
theorem dX_checkWhole_1 : decode cX_checkWhole 1 = .ok (.invokevirtual 89, 3) := by decide +kernel
theorem dX_checkWhole_4 : decode cX_checkWhole 4 = .ok (.ifCond .ne 13, 3) := by decide +kernel
theorem dX_checkWhole_7 : decode cX_checkWhole 7 = .ok (.new 38, 3) := by decide +kernel
theorem dX_checkWhole_10 : decode cX_checkWhole 10 = .ok (.dup, 1) := by decide +kernel
theorem dX_checkWhole_11 : decode cX_checkWhole 11 = .ok (.ldc 150, 2) := by decide +kernel
theorem dX_checkWhole_13 : decode cX_checkWhole 13 = .ok (.invokespecial 42, 3) := by decide +kernel
theorem dX_checkWhole_16 : decode cX_checkWhole 16 = .ok (.athrow, 1) := by decide +kernel
theorem dX_checkWhole_17 : decode cX_checkWhole 17 = .ok (.return_, 1) := by decide +kernel
theorem dM_init_0 : decode cM_init 0 = .ok (.aload_n 0, 1) := by decide +kernel
theorem dM_init_1 : decode cM_init 1 = .ok (.invokespecial 1, 3) := by decide +kernel
theorem dM_init_4 : decode cM_init 4 = .ok (.aload_n 0, 1) := by decide +kernel
theorem dM_init_5 : decode cM_init 5 = .ok (.bipush 8, 2) := by decide +kernel
theorem dM_init_7 : decode cM_init 7 = .ok (.newarray .int, 2) := by decide +kernel
theorem dM_init_9 : decode cM_init 9 = .ok (.putfield 9, 3) := by decide +kernel
theorem dM_init_12 : decode cM_init 12 = .ok (.aload_n 0, 1) := by decide +kernel
theorem dM_init_13 : decode cM_init 13 = .ok (.sipush 512, 3) := by decide +kernel
theorem dM_init_16 : decode cM_init 16 = .ok (.newarray .int, 2) := by decide +kernel
theorem dM_init_18 : decode cM_init 18 = .ok (.putfield 13, 3) := by decide +kernel
theorem dM_init_21 : decode cM_init 21 = .ok (.aload_n 0, 1) := by decide +kernel
theorem dM_init_22 : decode cM_init 22 = .ok (.bipush 48, 2) := by decide +kernel
theorem dM_init_24 : decode cM_init 24 = .ok (.newarray .int, 2) := by decide +kernel
theorem dM_init_26 : decode cM_init 26 = .ok (.putfield 16, 3) := by decide +kernel
theorem dM_init_29 : decode cM_init 29 = .ok (.aload_n 0, 1) := by decide +kernel
theorem dM_init_30 : decode cM_init 30 = .ok (.bipush 48, 2) := by decide +kernel
theorem dM_init_32 : decode cM_init 32 = .ok (.newarray .boolean, 2) := by decide +kernel
theorem dM_init_34 : decode cM_init 34 = .ok (.putfield 19, 3) := by decide +kernel
theorem dM_init_37 : decode cM_init 37 = .ok (.aload_n 0, 1) := by decide +kernel
theorem dM_init_38 : decode cM_init 38 = .ok (.bipush 6, 2) := by decide +kernel
theorem dM_init_40 : decode cM_init 40 = .ok (.newarray .long, 2) := by decide +kernel
theorem dM_init_42 : decode cM_init 42 = .ok (.putfield 23, 3) := by decide +kernel
theorem dM_init_45 : decode cM_init 45 = .ok (.return_, 1) := by decide +kernel
theorem dM_thrown_0 : decode cM_thrown 0 = .ok (.aload_n 0, 1) := by decide +kernel
theorem dM_thrown_1 : decode cM_thrown 1 = .ok (.getfield 27, 3) := by decide +kernel
theorem dM_thrown_4 : decode cM_thrown 4 = .ok (.ireturn, 1) := by decide +kernel
theorem dM_in_0 : decode cM_in 0 = .ok (.lload_n 0, 1) := by decide +kernel
theorem dM_in_1 : decode cM_in 1 = .ok (.lload_n 2, 1) := by decide +kernel
theorem dM_in_2 : decode cM_in 2 = .ok (.lcmp, 1) := by decide +kernel
theorem dM_in_3 : decode cM_in 3 = .ok (.ifCond .lt 14, 3) := by decide +kernel
theorem dM_in_6 : decode cM_in 6 = .ok (.lload_n 0, 1) := by decide +kernel
theorem dM_in_7 : decode cM_in 7 = .ok (.lload 4, 2) := by decide +kernel
theorem dM_in_9 : decode cM_in 9 = .ok (.lcmp, 1) := by decide +kernel
theorem dM_in_10 : decode cM_in 10 = .ok (.ifCond .gt 7, 3) := by decide +kernel
theorem dM_in_13 : decode cM_in 13 = .ok (.iconst 1, 1) := by decide +kernel
theorem dM_in_14 : decode cM_in 14 = .ok (.goto 4, 3) := by decide +kernel
theorem dM_in_17 : decode cM_in 17 = .ok (.iconst 0, 1) := by decide +kernel
theorem dM_in_18 : decode cM_in 18 = .ok (.ireturn, 1) := by decide +kernel
theorem dM_fails_0 : decode cM_fails 0 = .ok (.iload_n 1, 1) := by decide +kernel
theorem dM_fails_1 : decode cM_fails 1 = .ok (.ifCond .eq 15, 3) := by decide +kernel
theorem dM_fails_4 : decode cM_fails 4 = .ok (.aload_n 0, 1) := by decide +kernel
theorem dM_fails_5 : decode cM_fails 5 = .ok (.getfield 27, 3) := by decide +kernel
theorem dM_fails_8 : decode cM_fails 8 = .ok (.ifCond .ne 8, 3) := by decide +kernel
theorem dM_fails_11 : decode cM_fails 11 = .ok (.aload_n 0, 1) := by decide +kernel
theorem dM_fails_12 : decode cM_fails 12 = .ok (.iload_n 2, 1) := by decide +kernel
theorem dM_fails_13 : decode cM_fails 13 = .ok (.putfield 27, 3) := by decide +kernel
theorem dM_fails_16 : decode cM_fails 16 = .ok (.aload_n 0, 1) := by decide +kernel
theorem dM_fails_17 : decode cM_fails 17 = .ok (.getfield 27, 3) := by decide +kernel
theorem dM_fails_20 : decode cM_fails 20 = .ok (.ifCond .eq 7, 3) := by decide +kernel
theorem dM_fails_23 : decode cM_fails 23 = .ok (.iconst 1, 1) := by decide +kernel
theorem dM_fails_24 : decode cM_fails 24 = .ok (.goto 4, 3) := by decide +kernel
theorem dM_fails_27 : decode cM_fails 27 = .ok (.iconst 0, 1) := by decide +kernel
theorem dM_fails_28 : decode cM_fails 28 = .ok (.ireturn, 1) := by decide +kernel
theorem dM_isForm_0 : decode cM_isForm 0 = .ok (.iload_n 0, 1) := by decide +kernel
theorem dM_isForm_1 : decode cM_isForm 1 = .ok (.i2l, 1) := by decide +kernel
theorem dM_isForm_2 : decode cM_isForm 2 = .ok (.lconst 0, 1) := by decide +kernel
theorem dM_isForm_3 : decode cM_isForm 3 = .ok (.ldc2_w 31, 3) := by decide +kernel
theorem dM_isForm_6 : decode cM_isForm 6 = .ok (.invokestatic 33, 3) := by decide +kernel
theorem dM_isForm_9 : decode cM_isForm 9 = .ok (.ireturn, 1) := by decide +kernel
theorem dM_isOperand_0 : decode cM_isOperand 0 = .ok (.iload_n 0, 1) := by decide +kernel
theorem dM_isOperand_1 : decode cM_isOperand 1 = .ok (.i2l, 1) := by decide +kernel
theorem dM_isOperand_2 : decode cM_isOperand 2 = .ok (.lconst 0, 1) := by decide +kernel
theorem dM_isOperand_3 : decode cM_isOperand 3 = .ok (.ldc2_w 37, 3) := by decide +kernel
theorem dM_isOperand_6 : decode cM_isOperand 6 = .ok (.invokestatic 33, 3) := by decide +kernel
theorem dM_isOperand_9 : decode cM_isOperand 9 = .ok (.ireturn, 1) := by decide +kernel
theorem dM_isThere_0 : decode cM_isThere 0 = .ok (.iload_n 1, 1) := by decide +kernel
theorem dM_isThere_1 : decode cM_isThere 1 = .ok (.invokestatic 39, 3) := by decide +kernel
theorem dM_isThere_4 : decode cM_isThere 4 = .ok (.ifCond .eq 28, 3) := by decide +kernel
theorem dM_isThere_7 : decode cM_isThere 7 = .ok (.iload_n 2, 1) := by decide +kernel
theorem dM_isThere_8 : decode cM_isThere 8 = .ok (.invokestatic 43, 3) := by decide +kernel
theorem dM_isThere_11 : decode cM_isThere 11 = .ok (.ifCond .eq 21, 3) := by decide +kernel
theorem dM_isThere_14 : decode cM_isThere 14 = .ok (.aload_n 0, 1) := by decide +kernel
theorem dM_isThere_15 : decode cM_isThere 15 = .ok (.getfield 16, 3) := by decide +kernel
theorem dM_isThere_18 : decode cM_isThere 18 = .ok (.bipush 6, 2) := by decide +kernel
theorem dM_isThere_20 : decode cM_isThere 20 = .ok (.iload_n 1, 1) := by decide +kernel
theorem dM_isThere_21 : decode cM_isThere 21 = .ok (.imul, 1) := by decide +kernel
theorem dM_isThere_22 : decode cM_isThere 22 = .ok (.iload_n 2, 1) := by decide +kernel
theorem dM_isThere_23 : decode cM_isThere 23 = .ok (.iadd, 1) := by decide +kernel
theorem dM_isThere_24 : decode cM_isThere 24 = .ok (.iaload, 1) := by decide +kernel
theorem dM_isThere_25 : decode cM_isThere 25 = .ok (.ifCond .le 7, 3) := by decide +kernel
theorem dM_isThere_28 : decode cM_isThere 28 = .ok (.iconst 1, 1) := by decide +kernel
theorem dM_isThere_29 : decode cM_isThere 29 = .ok (.goto 4, 3) := by decide +kernel
theorem dM_isThere_32 : decode cM_isThere 32 = .ok (.iconst 0, 1) := by decide +kernel
theorem dM_isThere_33 : decode cM_isThere 33 = .ok (.ireturn, 1) := by decide +kernel
theorem dM_many_0 : decode cM_many 0 = .ok (.aload_n 0, 1) := by decide +kernel
theorem dM_many_1 : decode cM_many 1 = .ok (.getfield 16, 3) := by decide +kernel
theorem dM_many_4 : decode cM_many 4 = .ok (.bipush 6, 2) := by decide +kernel
theorem dM_many_6 : decode cM_many 6 = .ok (.iload_n 1, 1) := by decide +kernel
theorem dM_many_7 : decode cM_many 7 = .ok (.imul, 1) := by decide +kernel
theorem dM_many_8 : decode cM_many 8 = .ok (.iload_n 2, 1) := by decide +kernel
theorem dM_many_9 : decode cM_many 9 = .ok (.iadd, 1) := by decide +kernel
theorem dM_many_10 : decode cM_many 10 = .ok (.iaload, 1) := by decide +kernel
theorem dM_many_11 : decode cM_many 11 = .ok (.ireturn, 1) := by decide +kernel
theorem dM_place_0 : decode cM_place 0 = .ok (.iconst 0, 1) := by decide +kernel
theorem dM_place_1 : decode cM_place 1 = .ok (.istore 4, 2) := by decide +kernel
theorem dM_place_3 : decode cM_place 3 = .ok (.iload 4, 2) := by decide +kernel
theorem dM_place_5 : decode cM_place 5 = .ok (.aload_n 0, 1) := by decide +kernel
theorem dM_place_6 : decode cM_place 6 = .ok (.getfield 9, 3) := by decide +kernel
theorem dM_place_9 : decode cM_place 9 = .ok (.iload_n 1, 1) := by decide +kernel
theorem dM_place_10 : decode cM_place 10 = .ok (.iaload, 1) := by decide +kernel
theorem dM_place_11 : decode cM_place 11 = .ok (.if_icmp .ge 35, 3) := by decide +kernel
theorem dM_place_14 : decode cM_place 14 = .ok (.aload_n 0, 1) := by decide +kernel
theorem dM_place_15 : decode cM_place 15 = .ok (.getfield 13, 3) := by decide +kernel
theorem dM_place_18 : decode cM_place 18 = .ok (.bipush 64, 2) := by decide +kernel
theorem dM_place_20 : decode cM_place 20 = .ok (.iload_n 1, 1) := by decide +kernel
theorem dM_place_21 : decode cM_place 21 = .ok (.imul, 1) := by decide +kernel
theorem dM_place_22 : decode cM_place 22 = .ok (.iload 4, 2) := by decide +kernel
theorem dM_place_24 : decode cM_place 24 = .ok (.iadd, 1) := by decide +kernel
theorem dM_place_25 : decode cM_place 25 = .ok (.iaload, 1) := by decide +kernel
theorem dM_place_26 : decode cM_place 26 = .ok (.iconst 2, 1) := by decide +kernel
theorem dM_place_27 : decode cM_place 27 = .ok (.bipush 64, 2) := by decide +kernel
theorem dM_place_29 : decode cM_place 29 = .ok (.iload_n 2, 1) := by decide +kernel
theorem dM_place_30 : decode cM_place 30 = .ok (.imul, 1) := by decide +kernel
theorem dM_place_31 : decode cM_place 31 = .ok (.iadd, 1) := by decide +kernel
theorem dM_place_32 : decode cM_place 32 = .ok (.iload_n 3, 1) := by decide +kernel
theorem dM_place_33 : decode cM_place 33 = .ok (.iadd, 1) := by decide +kernel
theorem dM_place_34 : decode cM_place 34 = .ok (.if_icmp .ne 6, 3) := by decide +kernel
theorem dM_place_37 : decode cM_place 37 = .ok (.iload 4, 2) := by decide +kernel
theorem dM_place_39 : decode cM_place 39 = .ok (.ireturn, 1) := by decide +kernel
theorem dM_place_40 : decode cM_place 40 = .ok (.iinc 4 1, 3) := by decide +kernel
theorem dM_place_43 : decode cM_place 43 = .ok (.goto (-40), 3) := by decide +kernel
theorem dM_place_46 : decode cM_place 46 = .ok (.iconst (-1), 1) := by decide +kernel
theorem dM_place_47 : decode cM_place 47 = .ok (.ireturn, 1) := by decide +kernel
theorem dM_at_0 : decode cM_at 0 = .ok (.aload_n 0, 1) := by decide +kernel
theorem dM_at_1 : decode cM_at 1 = .ok (.getfield 13, 3) := by decide +kernel
theorem dM_at_4 : decode cM_at 4 = .ok (.bipush 64, 2) := by decide +kernel
theorem dM_at_6 : decode cM_at 6 = .ok (.iload_n 1, 1) := by decide +kernel
theorem dM_at_7 : decode cM_at 7 = .ok (.imul, 1) := by decide +kernel
theorem dM_at_8 : decode cM_at 8 = .ok (.aload_n 0, 1) := by decide +kernel
theorem dM_at_9 : decode cM_at 9 = .ok (.getfield 9, 3) := by decide +kernel
theorem dM_at_12 : decode cM_at 12 = .ok (.iload_n 1, 1) := by decide +kernel
theorem dM_at_13 : decode cM_at 13 = .ok (.iaload, 1) := by decide +kernel
theorem dM_at_14 : decode cM_at 14 = .ok (.iadd, 1) := by decide +kernel
theorem dM_at_15 : decode cM_at 15 = .ok (.iconst 1, 1) := by decide +kernel
theorem dM_at_16 : decode cM_at 16 = .ok (.isub, 1) := by decide +kernel
theorem dM_at_17 : decode cM_at 17 = .ok (.iload_n 2, 1) := by decide +kernel
theorem dM_at_18 : decode cM_at 18 = .ok (.isub, 1) := by decide +kernel
theorem dM_at_19 : decode cM_at 19 = .ok (.iaload, 1) := by decide +kernel
theorem dM_at_20 : decode cM_at 20 = .ok (.ireturn, 1) := by decide +kernel
theorem dM_bit_0 : decode cM_bit 0 = .ok (.lload_n 0, 1) := by decide +kernel
theorem dM_bit_1 : decode cM_bit 1 = .ok (.iload_n 2, 1) := by decide +kernel
theorem dM_bit_2 : decode cM_bit 2 = .ok (.lshr, 1) := by decide +kernel
theorem dM_bit_3 : decode cM_bit 3 = .ok (.l2i, 1) := by decide +kernel
theorem dM_bit_4 : decode cM_bit 4 = .ok (.iconst 1, 1) := by decide +kernel
theorem dM_bit_5 : decode cM_bit 5 = .ok (.iand, 1) := by decide +kernel
theorem dM_bit_6 : decode cM_bit 6 = .ok (.ireturn, 1) := by decide +kernel
theorem dM_clear_0 : decode cM_clear 0 = .ok (.aload_n 0, 1) := by decide +kernel
theorem dM_clear_1 : decode cM_clear 1 = .ok (.iconst 0, 1) := by decide +kernel
theorem dM_clear_2 : decode cM_clear 2 = .ok (.putfield 27, 3) := by decide +kernel
theorem dM_clear_5 : decode cM_clear 5 = .ok (.aload_n 0, 1) := by decide +kernel
theorem dM_clear_6 : decode cM_clear 6 = .ok (.iload_n 1, 1) := by decide +kernel
theorem dM_clear_7 : decode cM_clear 7 = .ok (.invokestatic 39, 3) := by decide +kernel
theorem dM_clear_10 : decode cM_clear 10 = .ok (.ifCond .ne 7, 3) := by decide +kernel
theorem dM_clear_13 : decode cM_clear 13 = .ok (.iconst 1, 1) := by decide +kernel
theorem dM_clear_14 : decode cM_clear 14 = .ok (.goto 4, 3) := by decide +kernel
theorem dM_clear_17 : decode cM_clear 17 = .ok (.iconst 0, 1) := by decide +kernel
theorem dM_clear_18 : decode cM_clear 18 = .ok (.iconst 1, 1) := by decide +kernel
theorem dM_clear_19 : decode cM_clear 19 = .ok (.invokevirtual 46, 3) := by decide +kernel
theorem dM_clear_22 : decode cM_clear 22 = .ok (.ifCond .eq 4, 3) := by decide +kernel
theorem dM_clear_25 : decode cM_clear 25 = .ok (.return_, 1) := by decide +kernel
theorem dM_clear_26 : decode cM_clear 26 = .ok (.aload_n 0, 1) := by decide +kernel
theorem dM_clear_27 : decode cM_clear 27 = .ok (.getfield 9, 3) := by decide +kernel
theorem dM_clear_30 : decode cM_clear 30 = .ok (.iload_n 1, 1) := by decide +kernel
theorem dM_clear_31 : decode cM_clear 31 = .ok (.iconst 0, 1) := by decide +kernel
theorem dM_clear_32 : decode cM_clear 32 = .ok (.iastore, 1) := by decide +kernel
theorem dM_clear_33 : decode cM_clear 33 = .ok (.iconst 0, 1) := by decide +kernel
theorem dM_clear_34 : decode cM_clear 34 = .ok (.istore_n 2, 1) := by decide +kernel
theorem dM_clear_35 : decode cM_clear 35 = .ok (.iload_n 2, 1) := by decide +kernel
theorem dM_clear_36 : decode cM_clear 36 = .ok (.bipush 6, 2) := by decide +kernel
theorem dM_clear_38 : decode cM_clear 38 = .ok (.if_icmp .ge 21, 3) := by decide +kernel
theorem dM_clear_41 : decode cM_clear 41 = .ok (.aload_n 0, 1) := by decide +kernel
theorem dM_clear_42 : decode cM_clear 42 = .ok (.getfield 16, 3) := by decide +kernel
theorem dM_clear_45 : decode cM_clear 45 = .ok (.bipush 6, 2) := by decide +kernel
theorem dM_clear_47 : decode cM_clear 47 = .ok (.iload_n 1, 1) := by decide +kernel
theorem dM_clear_48 : decode cM_clear 48 = .ok (.imul, 1) := by decide +kernel
theorem dM_clear_49 : decode cM_clear 49 = .ok (.iload_n 2, 1) := by decide +kernel
theorem dM_clear_50 : decode cM_clear 50 = .ok (.iadd, 1) := by decide +kernel
theorem dM_clear_51 : decode cM_clear 51 = .ok (.iconst 0, 1) := by decide +kernel
theorem dM_clear_52 : decode cM_clear 52 = .ok (.iastore, 1) := by decide +kernel
theorem dM_clear_53 : decode cM_clear 53 = .ok (.iinc 2 1, 3) := by decide +kernel
theorem dM_clear_56 : decode cM_clear 56 = .ok (.goto (-21), 3) := by decide +kernel
theorem dM_clear_59 : decode cM_clear 59 = .ok (.return_, 1) := by decide +kernel
theorem dM_operand_0 : decode cM_operand 0 = .ok (.aload_n 0, 1) := by decide +kernel
theorem dM_operand_1 : decode cM_operand 1 = .ok (.iconst 0, 1) := by decide +kernel
theorem dM_operand_2 : decode cM_operand 2 = .ok (.putfield 27, 3) := by decide +kernel
theorem dM_operand_5 : decode cM_operand 5 = .ok (.aload_n 0, 1) := by decide +kernel
theorem dM_operand_6 : decode cM_operand 6 = .ok (.iload_n 1, 1) := by decide +kernel
theorem dM_operand_7 : decode cM_operand 7 = .ok (.invokestatic 39, 3) := by decide +kernel
theorem dM_operand_10 : decode cM_operand 10 = .ok (.ifCond .eq 22, 3) := by decide +kernel
theorem dM_operand_13 : decode cM_operand 13 = .ok (.iload_n 2, 1) := by decide +kernel
theorem dM_operand_14 : decode cM_operand 14 = .ok (.invokestatic 43, 3) := by decide +kernel
theorem dM_operand_17 : decode cM_operand 17 = .ok (.ifCond .eq 15, 3) := by decide +kernel
theorem dM_operand_20 : decode cM_operand 20 = .ok (.iload_n 3, 1) := by decide +kernel
theorem dM_operand_21 : decode cM_operand 21 = .ok (.i2l, 1) := by decide +kernel
theorem dM_operand_22 : decode cM_operand 22 = .ok (.lconst 1, 1) := by decide +kernel
theorem dM_operand_23 : decode cM_operand 23 = .ok (.ldc2_w 50, 3) := by decide +kernel
theorem dM_operand_26 : decode cM_operand 26 = .ok (.invokestatic 33, 3) := by decide +kernel
theorem dM_operand_29 : decode cM_operand 29 = .ok (.ifCond .ne 7, 3) := by decide +kernel
theorem dM_operand_32 : decode cM_operand 32 = .ok (.iconst 1, 1) := by decide +kernel
theorem dM_operand_33 : decode cM_operand 33 = .ok (.goto 4, 3) := by decide +kernel
theorem dM_operand_36 : decode cM_operand 36 = .ok (.iconst 0, 1) := by decide +kernel
theorem dM_operand_37 : decode cM_operand 37 = .ok (.iconst 1, 1) := by decide +kernel
theorem dM_operand_38 : decode cM_operand 38 = .ok (.invokevirtual 46, 3) := by decide +kernel
theorem dM_operand_41 : decode cM_operand 41 = .ok (.ifCond .ne 25, 3) := by decide +kernel
theorem dM_operand_44 : decode cM_operand 44 = .ok (.aload_n 0, 1) := by decide +kernel
theorem dM_operand_45 : decode cM_operand 45 = .ok (.aload_n 0, 1) := by decide +kernel
theorem dM_operand_46 : decode cM_operand 46 = .ok (.iload_n 1, 1) := by decide +kernel
theorem dM_operand_47 : decode cM_operand 47 = .ok (.iload_n 2, 1) := by decide +kernel
theorem dM_operand_48 : decode cM_operand 48 = .ok (.invokevirtual 52, 3) := by decide +kernel
theorem dM_operand_51 : decode cM_operand 51 = .ok (.ifCond .le 7, 3) := by decide +kernel
theorem dM_operand_54 : decode cM_operand 54 = .ok (.iconst 1, 1) := by decide +kernel
theorem dM_operand_55 : decode cM_operand 55 = .ok (.goto 4, 3) := by decide +kernel
theorem dM_operand_58 : decode cM_operand 58 = .ok (.iconst 0, 1) := by decide +kernel
theorem dM_operand_59 : decode cM_operand 59 = .ok (.iconst 2, 1) := by decide +kernel
theorem dM_operand_60 : decode cM_operand 60 = .ok (.invokevirtual 46, 3) := by decide +kernel
theorem dM_operand_63 : decode cM_operand 63 = .ok (.ifCond .eq 4, 3) := by decide +kernel
theorem dM_operand_66 : decode cM_operand 66 = .ok (.return_, 1) := by decide +kernel
theorem dM_operand_67 : decode cM_operand 67 = .ok (.aload_n 0, 1) := by decide +kernel
theorem dM_operand_68 : decode cM_operand 68 = .ok (.getfield 16, 3) := by decide +kernel
theorem dM_operand_71 : decode cM_operand 71 = .ok (.bipush 6, 2) := by decide +kernel
theorem dM_operand_73 : decode cM_operand 73 = .ok (.iload_n 1, 1) := by decide +kernel
theorem dM_operand_74 : decode cM_operand 74 = .ok (.imul, 1) := by decide +kernel
theorem dM_operand_75 : decode cM_operand 75 = .ok (.iload_n 2, 1) := by decide +kernel
theorem dM_operand_76 : decode cM_operand 76 = .ok (.iadd, 1) := by decide +kernel
theorem dM_operand_77 : decode cM_operand 77 = .ok (.iload_n 3, 1) := by decide +kernel
theorem dM_operand_78 : decode cM_operand 78 = .ok (.iastore, 1) := by decide +kernel
theorem dM_operand_79 : decode cM_operand 79 = .ok (.aload_n 0, 1) := by decide +kernel
theorem dM_operand_80 : decode cM_operand 80 = .ok (.getfield 19, 3) := by decide +kernel
theorem dM_operand_83 : decode cM_operand 83 = .ok (.bipush 6, 2) := by decide +kernel
theorem dM_operand_85 : decode cM_operand 85 = .ok (.iload_n 1, 1) := by decide +kernel
theorem dM_operand_86 : decode cM_operand 86 = .ok (.imul, 1) := by decide +kernel
theorem dM_operand_87 : decode cM_operand 87 = .ok (.iload_n 2, 1) := by decide +kernel
theorem dM_operand_88 : decode cM_operand 88 = .ok (.iadd, 1) := by decide +kernel
theorem dM_operand_89 : decode cM_operand 89 = .ok (.iload 4, 2) := by decide +kernel
theorem dM_operand_91 : decode cM_operand 91 = .ok (.bastore, 1) := by decide +kernel
theorem dM_operand_92 : decode cM_operand 92 = .ok (.return_, 1) := by decide +kernel
theorem dM_fixed_0 : decode cM_fixed 0 = .ok (.aload_n 0, 1) := by decide +kernel
theorem dM_fixed_1 : decode cM_fixed 1 = .ok (.iconst 0, 1) := by decide +kernel
theorem dM_fixed_2 : decode cM_fixed 2 = .ok (.putfield 27, 3) := by decide +kernel
theorem dM_fixed_5 : decode cM_fixed 5 = .ok (.aload_n 0, 1) := by decide +kernel
theorem dM_fixed_6 : decode cM_fixed 6 = .ok (.iload_n 1, 1) := by decide +kernel
theorem dM_fixed_7 : decode cM_fixed 7 = .ok (.invokestatic 39, 3) := by decide +kernel
theorem dM_fixed_10 : decode cM_fixed 10 = .ok (.ifCond .eq 15, 3) := by decide +kernel
theorem dM_fixed_13 : decode cM_fixed 13 = .ok (.iload_n 2, 1) := by decide +kernel
theorem dM_fixed_14 : decode cM_fixed 14 = .ok (.i2l, 1) := by decide +kernel
theorem dM_fixed_15 : decode cM_fixed 15 = .ok (.lconst 1, 1) := by decide +kernel
theorem dM_fixed_16 : decode cM_fixed 16 = .ok (.ldc2_w 50, 3) := by decide +kernel
theorem dM_fixed_19 : decode cM_fixed 19 = .ok (.invokestatic 33, 3) := by decide +kernel
theorem dM_fixed_22 : decode cM_fixed 22 = .ok (.ifCond .ne 7, 3) := by decide +kernel
theorem dM_fixed_25 : decode cM_fixed 25 = .ok (.iconst 1, 1) := by decide +kernel
theorem dM_fixed_26 : decode cM_fixed 26 = .ok (.goto 4, 3) := by decide +kernel
theorem dM_fixed_29 : decode cM_fixed 29 = .ok (.iconst 0, 1) := by decide +kernel
theorem dM_fixed_30 : decode cM_fixed 30 = .ok (.iconst 1, 1) := by decide +kernel
theorem dM_fixed_31 : decode cM_fixed 31 = .ok (.invokevirtual 46, 3) := by decide +kernel
theorem dM_fixed_34 : decode cM_fixed 34 = .ok (.ifCond .ne 29, 3) := by decide +kernel
theorem dM_fixed_37 : decode cM_fixed 37 = .ok (.aload_n 0, 1) := by decide +kernel
theorem dM_fixed_38 : decode cM_fixed 38 = .ok (.aload_n 0, 1) := by decide +kernel
theorem dM_fixed_39 : decode cM_fixed 39 = .ok (.getfield 9, 3) := by decide +kernel
theorem dM_fixed_42 : decode cM_fixed 42 = .ok (.iload_n 1, 1) := by decide +kernel
theorem dM_fixed_43 : decode cM_fixed 43 = .ok (.iaload, 1) := by decide +kernel
theorem dM_fixed_44 : decode cM_fixed 44 = .ok (.iload_n 2, 1) := by decide +kernel
theorem dM_fixed_45 : decode cM_fixed 45 = .ok (.iadd, 1) := by decide +kernel
theorem dM_fixed_46 : decode cM_fixed 46 = .ok (.bipush 64, 2) := by decide +kernel
theorem dM_fixed_48 : decode cM_fixed 48 = .ok (.if_icmp .le 7, 3) := by decide +kernel
theorem dM_fixed_51 : decode cM_fixed 51 = .ok (.iconst 1, 1) := by decide +kernel
theorem dM_fixed_52 : decode cM_fixed 52 = .ok (.goto 4, 3) := by decide +kernel
theorem dM_fixed_55 : decode cM_fixed 55 = .ok (.iconst 0, 1) := by decide +kernel
theorem dM_fixed_56 : decode cM_fixed 56 = .ok (.iconst 2, 1) := by decide +kernel
theorem dM_fixed_57 : decode cM_fixed 57 = .ok (.invokevirtual 46, 3) := by decide +kernel
theorem dM_fixed_60 : decode cM_fixed 60 = .ok (.ifCond .eq 5, 3) := by decide +kernel
theorem dM_fixed_63 : decode cM_fixed 63 = .ok (.iconst 0, 1) := by decide +kernel
theorem dM_fixed_64 : decode cM_fixed 64 = .ok (.ireturn, 1) := by decide +kernel
theorem dM_fixed_65 : decode cM_fixed 65 = .ok (.iload_n 2, 1) := by decide +kernel
theorem dM_fixed_66 : decode cM_fixed 66 = .ok (.iconst 1, 1) := by decide +kernel
theorem dM_fixed_67 : decode cM_fixed 67 = .ok (.isub, 1) := by decide +kernel
theorem dM_fixed_68 : decode cM_fixed 68 = .ok (.istore 5, 2) := by decide +kernel
theorem dM_fixed_70 : decode cM_fixed 70 = .ok (.iload 5, 2) := by decide +kernel
theorem dM_fixed_72 : decode cM_fixed 72 = .ok (.ifCond .lt 36, 3) := by decide +kernel
theorem dM_fixed_75 : decode cM_fixed 75 = .ok (.aload_n 0, 1) := by decide +kernel
theorem dM_fixed_76 : decode cM_fixed 76 = .ok (.getfield 13, 3) := by decide +kernel
theorem dM_fixed_79 : decode cM_fixed 79 = .ok (.bipush 64, 2) := by decide +kernel
theorem dM_fixed_81 : decode cM_fixed 81 = .ok (.iload_n 1, 1) := by decide +kernel
theorem dM_fixed_82 : decode cM_fixed 82 = .ok (.imul, 1) := by decide +kernel
theorem dM_fixed_83 : decode cM_fixed 83 = .ok (.aload_n 0, 1) := by decide +kernel
theorem dM_fixed_84 : decode cM_fixed 84 = .ok (.getfield 9, 3) := by decide +kernel
theorem dM_fixed_87 : decode cM_fixed 87 = .ok (.iload_n 1, 1) := by decide +kernel
theorem dM_fixed_88 : decode cM_fixed 88 = .ok (.dup2, 1) := by decide +kernel
theorem dM_fixed_89 : decode cM_fixed 89 = .ok (.iaload, 1) := by decide +kernel
theorem dM_fixed_90 : decode cM_fixed 90 = .ok (.dup_x2, 1) := by decide +kernel
theorem dM_fixed_91 : decode cM_fixed 91 = .ok (.iconst 1, 1) := by decide +kernel
theorem dM_fixed_92 : decode cM_fixed 92 = .ok (.iadd, 1) := by decide +kernel
theorem dM_fixed_93 : decode cM_fixed 93 = .ok (.iastore, 1) := by decide +kernel
theorem dM_fixed_94 : decode cM_fixed 94 = .ok (.iadd, 1) := by decide +kernel
theorem dM_fixed_95 : decode cM_fixed 95 = .ok (.lload_n 3, 1) := by decide +kernel
theorem dM_fixed_96 : decode cM_fixed 96 = .ok (.iload 5, 2) := by decide +kernel
theorem dM_fixed_98 : decode cM_fixed 98 = .ok (.invokestatic 56, 3) := by decide +kernel
theorem dM_fixed_101 : decode cM_fixed 101 = .ok (.iastore, 1) := by decide +kernel
theorem dM_fixed_102 : decode cM_fixed 102 = .ok (.iinc 5 (-1), 3) := by decide +kernel
theorem dM_fixed_105 : decode cM_fixed 105 = .ok (.goto (-35), 3) := by decide +kernel
theorem dM_fixed_108 : decode cM_fixed 108 = .ok (.aload_n 0, 1) := by decide +kernel
theorem dM_fixed_109 : decode cM_fixed 109 = .ok (.getfield 9, 3) := by decide +kernel
theorem dM_fixed_112 : decode cM_fixed 112 = .ok (.iload_n 1, 1) := by decide +kernel
theorem dM_fixed_113 : decode cM_fixed 113 = .ok (.iaload, 1) := by decide +kernel
theorem dM_fixed_114 : decode cM_fixed 114 = .ok (.ireturn, 1) := by decide +kernel
theorem dM_slice_0 : decode cM_slice 0 = .ok (.aload_n 0, 1) := by decide +kernel
theorem dM_slice_1 : decode cM_slice 1 = .ok (.iconst 0, 1) := by decide +kernel
theorem dM_slice_2 : decode cM_slice 2 = .ok (.putfield 27, 3) := by decide +kernel
theorem dM_slice_5 : decode cM_slice 5 = .ok (.aload_n 0, 1) := by decide +kernel
theorem dM_slice_6 : decode cM_slice 6 = .ok (.aload_n 0, 1) := by decide +kernel
theorem dM_slice_7 : decode cM_slice 7 = .ok (.iload_n 1, 1) := by decide +kernel
theorem dM_slice_8 : decode cM_slice 8 = .ok (.iload_n 2, 1) := by decide +kernel
theorem dM_slice_9 : decode cM_slice 9 = .ok (.invokevirtual 60, 3) := by decide +kernel
theorem dM_slice_12 : decode cM_slice 12 = .ok (.ifCond .eq 9, 3) := by decide +kernel
theorem dM_slice_15 : decode cM_slice 15 = .ok (.iload_n 3, 1) := by decide +kernel
theorem dM_slice_16 : decode cM_slice 16 = .ok (.iload 4, 2) := by decide +kernel
theorem dM_slice_18 : decode cM_slice 18 = .ok (.if_icmp .ge 7, 3) := by decide +kernel
theorem dM_slice_21 : decode cM_slice 21 = .ok (.iconst 1, 1) := by decide +kernel
theorem dM_slice_22 : decode cM_slice 22 = .ok (.goto 4, 3) := by decide +kernel
theorem dM_slice_25 : decode cM_slice 25 = .ok (.iconst 0, 1) := by decide +kernel
theorem dM_slice_26 : decode cM_slice 26 = .ok (.iconst 1, 1) := by decide +kernel
theorem dM_slice_27 : decode cM_slice 27 = .ok (.invokevirtual 46, 3) := by decide +kernel
theorem dM_slice_30 : decode cM_slice 30 = .ok (.ifCond .eq 5, 3) := by decide +kernel
theorem dM_slice_33 : decode cM_slice 33 = .ok (.iconst 0, 1) := by decide +kernel
theorem dM_slice_34 : decode cM_slice 34 = .ok (.ireturn, 1) := by decide +kernel
theorem dM_slice_35 : decode cM_slice 35 = .ok (.aload_n 0, 1) := by decide +kernel
theorem dM_slice_36 : decode cM_slice 36 = .ok (.iload 4, 2) := by decide +kernel
theorem dM_slice_38 : decode cM_slice 38 = .ok (.ifCond .lt 13, 3) := by decide +kernel
theorem dM_slice_41 : decode cM_slice 41 = .ok (.iload_n 3, 1) := by decide +kernel
theorem dM_slice_42 : decode cM_slice 42 = .ok (.aload_n 0, 1) := by decide +kernel
theorem dM_slice_43 : decode cM_slice 43 = .ok (.iload_n 1, 1) := by decide +kernel
theorem dM_slice_44 : decode cM_slice 44 = .ok (.iload_n 2, 1) := by decide +kernel
theorem dM_slice_45 : decode cM_slice 45 = .ok (.invokevirtual 52, 3) := by decide +kernel
theorem dM_slice_48 : decode cM_slice 48 = .ok (.if_icmp .lt 7, 3) := by decide +kernel
theorem dM_slice_51 : decode cM_slice 51 = .ok (.iconst 1, 1) := by decide +kernel
theorem dM_slice_52 : decode cM_slice 52 = .ok (.goto 4, 3) := by decide +kernel
theorem dM_slice_55 : decode cM_slice 55 = .ok (.iconst 0, 1) := by decide +kernel
theorem dM_slice_56 : decode cM_slice 56 = .ok (.iconst 2, 1) := by decide +kernel
theorem dM_slice_57 : decode cM_slice 57 = .ok (.invokevirtual 46, 3) := by decide +kernel
theorem dM_slice_60 : decode cM_slice 60 = .ok (.ifCond .ne 34, 3) := by decide +kernel
theorem dM_slice_63 : decode cM_slice 63 = .ok (.aload_n 0, 1) := by decide +kernel
theorem dM_slice_64 : decode cM_slice 64 = .ok (.aload_n 0, 1) := by decide +kernel
theorem dM_slice_65 : decode cM_slice 65 = .ok (.getfield 9, 3) := by decide +kernel
theorem dM_slice_68 : decode cM_slice 68 = .ok (.iload_n 1, 1) := by decide +kernel
theorem dM_slice_69 : decode cM_slice 69 = .ok (.iaload, 1) := by decide +kernel
theorem dM_slice_70 : decode cM_slice 70 = .ok (.iload_n 3, 1) := by decide +kernel
theorem dM_slice_71 : decode cM_slice 71 = .ok (.iadd, 1) := by decide +kernel
theorem dM_slice_72 : decode cM_slice 72 = .ok (.iload 4, 2) := by decide +kernel
theorem dM_slice_74 : decode cM_slice 74 = .ok (.isub, 1) := by decide +kernel
theorem dM_slice_75 : decode cM_slice 75 = .ok (.iconst 1, 1) := by decide +kernel
theorem dM_slice_76 : decode cM_slice 76 = .ok (.iadd, 1) := by decide +kernel
theorem dM_slice_77 : decode cM_slice 77 = .ok (.bipush 64, 2) := by decide +kernel
theorem dM_slice_79 : decode cM_slice 79 = .ok (.if_icmp .le 7, 3) := by decide +kernel
theorem dM_slice_82 : decode cM_slice 82 = .ok (.iconst 1, 1) := by decide +kernel
theorem dM_slice_83 : decode cM_slice 83 = .ok (.goto 4, 3) := by decide +kernel
theorem dM_slice_86 : decode cM_slice 86 = .ok (.iconst 0, 1) := by decide +kernel
theorem dM_slice_87 : decode cM_slice 87 = .ok (.iconst 2, 1) := by decide +kernel
theorem dM_slice_88 : decode cM_slice 88 = .ok (.invokevirtual 46, 3) := by decide +kernel
theorem dM_slice_91 : decode cM_slice 91 = .ok (.ifCond .eq 5, 3) := by decide +kernel
theorem dM_slice_94 : decode cM_slice 94 = .ok (.iconst 0, 1) := by decide +kernel
theorem dM_slice_95 : decode cM_slice 95 = .ok (.ireturn, 1) := by decide +kernel
theorem dM_slice_96 : decode cM_slice 96 = .ok (.iload 4, 2) := by decide +kernel
theorem dM_slice_98 : decode cM_slice 98 = .ok (.istore 5, 2) := by decide +kernel
theorem dM_slice_100 : decode cM_slice 100 = .ok (.iload 5, 2) := by decide +kernel
theorem dM_slice_102 : decode cM_slice 102 = .ok (.iload_n 3, 1) := by decide +kernel
theorem dM_slice_103 : decode cM_slice 103 = .ok (.if_icmp .gt 35, 3) := by decide +kernel
theorem dM_slice_106 : decode cM_slice 106 = .ok (.aload_n 0, 1) := by decide +kernel
theorem dM_slice_107 : decode cM_slice 107 = .ok (.aload_n 0, 1) := by decide +kernel
theorem dM_slice_108 : decode cM_slice 108 = .ok (.iload_n 1, 1) := by decide +kernel
theorem dM_slice_109 : decode cM_slice 109 = .ok (.iload_n 2, 1) := by decide +kernel
theorem dM_slice_110 : decode cM_slice 110 = .ok (.iload 5, 2) := by decide +kernel
theorem dM_slice_112 : decode cM_slice 112 = .ok (.invokevirtual 64, 3) := by decide +kernel
theorem dM_slice_115 : decode cM_slice 115 = .ok (.ifCond .lt 7, 3) := by decide +kernel
theorem dM_slice_118 : decode cM_slice 118 = .ok (.iconst 1, 1) := by decide +kernel
theorem dM_slice_119 : decode cM_slice 119 = .ok (.goto 4, 3) := by decide +kernel
theorem dM_slice_122 : decode cM_slice 122 = .ok (.iconst 0, 1) := by decide +kernel
theorem dM_slice_123 : decode cM_slice 123 = .ok (.iconst 3, 1) := by decide +kernel
theorem dM_slice_124 : decode cM_slice 124 = .ok (.invokevirtual 46, 3) := by decide +kernel
theorem dM_slice_127 : decode cM_slice 127 = .ok (.ifCond .eq 5, 3) := by decide +kernel
theorem dM_slice_130 : decode cM_slice 130 = .ok (.iconst 0, 1) := by decide +kernel
theorem dM_slice_131 : decode cM_slice 131 = .ok (.ireturn, 1) := by decide +kernel
theorem dM_slice_132 : decode cM_slice 132 = .ok (.iinc 5 1, 3) := by decide +kernel
theorem dM_slice_135 : decode cM_slice 135 = .ok (.goto (-35), 3) := by decide +kernel
theorem dM_slice_138 : decode cM_slice 138 = .ok (.iload_n 3, 1) := by decide +kernel
theorem dM_slice_139 : decode cM_slice 139 = .ok (.istore 5, 2) := by decide +kernel
theorem dM_slice_141 : decode cM_slice 141 = .ok (.iload 5, 2) := by decide +kernel
theorem dM_slice_143 : decode cM_slice 143 = .ok (.iload 4, 2) := by decide +kernel
theorem dM_slice_145 : decode cM_slice 145 = .ok (.if_icmp .lt 39, 3) := by decide +kernel
theorem dM_slice_148 : decode cM_slice 148 = .ok (.aload_n 0, 1) := by decide +kernel
theorem dM_slice_149 : decode cM_slice 149 = .ok (.getfield 13, 3) := by decide +kernel
theorem dM_slice_152 : decode cM_slice 152 = .ok (.bipush 64, 2) := by decide +kernel
theorem dM_slice_154 : decode cM_slice 154 = .ok (.iload_n 1, 1) := by decide +kernel
theorem dM_slice_155 : decode cM_slice 155 = .ok (.imul, 1) := by decide +kernel
theorem dM_slice_156 : decode cM_slice 156 = .ok (.aload_n 0, 1) := by decide +kernel
theorem dM_slice_157 : decode cM_slice 157 = .ok (.getfield 9, 3) := by decide +kernel
theorem dM_slice_160 : decode cM_slice 160 = .ok (.iload_n 1, 1) := by decide +kernel
theorem dM_slice_161 : decode cM_slice 161 = .ok (.dup2, 1) := by decide +kernel
theorem dM_slice_162 : decode cM_slice 162 = .ok (.iaload, 1) := by decide +kernel
theorem dM_slice_163 : decode cM_slice 163 = .ok (.dup_x2, 1) := by decide +kernel
theorem dM_slice_164 : decode cM_slice 164 = .ok (.iconst 1, 1) := by decide +kernel
theorem dM_slice_165 : decode cM_slice 165 = .ok (.iadd, 1) := by decide +kernel
theorem dM_slice_166 : decode cM_slice 166 = .ok (.iastore, 1) := by decide +kernel
theorem dM_slice_167 : decode cM_slice 167 = .ok (.iadd, 1) := by decide +kernel
theorem dM_slice_168 : decode cM_slice 168 = .ok (.iconst 2, 1) := by decide +kernel
theorem dM_slice_169 : decode cM_slice 169 = .ok (.bipush 64, 2) := by decide +kernel
theorem dM_slice_171 : decode cM_slice 171 = .ok (.iload_n 2, 1) := by decide +kernel
theorem dM_slice_172 : decode cM_slice 172 = .ok (.imul, 1) := by decide +kernel
theorem dM_slice_173 : decode cM_slice 173 = .ok (.iadd, 1) := by decide +kernel
theorem dM_slice_174 : decode cM_slice 174 = .ok (.iload 5, 2) := by decide +kernel
theorem dM_slice_176 : decode cM_slice 176 = .ok (.iadd, 1) := by decide +kernel
theorem dM_slice_177 : decode cM_slice 177 = .ok (.iastore, 1) := by decide +kernel
theorem dM_slice_178 : decode cM_slice 178 = .ok (.iinc 5 (-1), 3) := by decide +kernel
theorem dM_slice_181 : decode cM_slice 181 = .ok (.goto (-40), 3) := by decide +kernel
theorem dM_slice_184 : decode cM_slice 184 = .ok (.aload_n 0, 1) := by decide +kernel
theorem dM_slice_185 : decode cM_slice 185 = .ok (.getfield 9, 3) := by decide +kernel
theorem dM_slice_188 : decode cM_slice 188 = .ok (.iload_n 1, 1) := by decide +kernel
theorem dM_slice_189 : decode cM_slice 189 = .ok (.iaload, 1) := by decide +kernel
theorem dM_slice_190 : decode cM_slice 190 = .ok (.ireturn, 1) := by decide +kernel
theorem dM_left_0 : decode cM_left 0 = .ok (.iconst 0, 1) := by decide +kernel
theorem dM_left_1 : decode cM_left 1 = .ok (.istore_n 2, 1) := by decide +kernel
theorem dM_left_2 : decode cM_left 2 = .ok (.iconst 0, 1) := by decide +kernel
theorem dM_left_3 : decode cM_left 3 = .ok (.istore_n 3, 1) := by decide +kernel
theorem dM_left_4 : decode cM_left 4 = .ok (.iload_n 3, 1) := by decide +kernel
theorem dM_left_5 : decode cM_left 5 = .ok (.bipush 6, 2) := by decide +kernel
theorem dM_left_7 : decode cM_left 7 = .ok (.if_icmp .ge 43, 3) := by decide +kernel
theorem dM_left_10 : decode cM_left 10 = .ok (.iconst 0, 1) := by decide +kernel
theorem dM_left_11 : decode cM_left 11 = .ok (.istore 4, 2) := by decide +kernel
theorem dM_left_13 : decode cM_left 13 = .ok (.iload 4, 2) := by decide +kernel
theorem dM_left_15 : decode cM_left 15 = .ok (.aload_n 0, 1) := by decide +kernel
theorem dM_left_16 : decode cM_left 16 = .ok (.iload_n 1, 1) := by decide +kernel
theorem dM_left_17 : decode cM_left 17 = .ok (.iload_n 3, 1) := by decide +kernel
theorem dM_left_18 : decode cM_left 18 = .ok (.invokevirtual 52, 3) := by decide +kernel
theorem dM_left_21 : decode cM_left 21 = .ok (.if_icmp .ge 23, 3) := by decide +kernel
theorem dM_left_24 : decode cM_left 24 = .ok (.aload_n 0, 1) := by decide +kernel
theorem dM_left_25 : decode cM_left 25 = .ok (.iload_n 1, 1) := by decide +kernel
theorem dM_left_26 : decode cM_left 26 = .ok (.iload_n 3, 1) := by decide +kernel
theorem dM_left_27 : decode cM_left 27 = .ok (.iload 4, 2) := by decide +kernel
theorem dM_left_29 : decode cM_left 29 = .ok (.invokevirtual 64, 3) := by decide +kernel
theorem dM_left_32 : decode cM_left 32 = .ok (.ifCond .ge 6, 3) := by decide +kernel
theorem dM_left_35 : decode cM_left 35 = .ok (.iinc 2 1, 3) := by decide +kernel
theorem dM_left_38 : decode cM_left 38 = .ok (.iinc 4 1, 3) := by decide +kernel
theorem dM_left_41 : decode cM_left 41 = .ok (.goto (-28), 3) := by decide +kernel
theorem dM_left_44 : decode cM_left 44 = .ok (.iinc 3 1, 3) := by decide +kernel
theorem dM_left_47 : decode cM_left 47 = .ok (.goto (-43), 3) := by decide +kernel
theorem dM_left_50 : decode cM_left 50 = .ok (.iload_n 2, 1) := by decide +kernel
theorem dM_left_51 : decode cM_left 51 = .ok (.ireturn, 1) := by decide +kernel
theorem dM_whole_0 : decode cM_whole 0 = .ok (.aload_n 0, 1) := by decide +kernel
theorem dM_whole_1 : decode cM_whole 1 = .ok (.iconst 0, 1) := by decide +kernel
theorem dM_whole_2 : decode cM_whole 2 = .ok (.putfield 27, 3) := by decide +kernel
theorem dM_whole_5 : decode cM_whole 5 = .ok (.aload_n 0, 1) := by decide +kernel
theorem dM_whole_6 : decode cM_whole 6 = .ok (.iload_n 1, 1) := by decide +kernel
theorem dM_whole_7 : decode cM_whole 7 = .ok (.invokestatic 39, 3) := by decide +kernel
theorem dM_whole_10 : decode cM_whole 10 = .ok (.ifCond .ne 7, 3) := by decide +kernel
theorem dM_whole_13 : decode cM_whole 13 = .ok (.iconst 1, 1) := by decide +kernel
theorem dM_whole_14 : decode cM_whole 14 = .ok (.goto 4, 3) := by decide +kernel
theorem dM_whole_17 : decode cM_whole 17 = .ok (.iconst 0, 1) := by decide +kernel
theorem dM_whole_18 : decode cM_whole 18 = .ok (.iconst 1, 1) := by decide +kernel
theorem dM_whole_19 : decode cM_whole 19 = .ok (.invokevirtual 46, 3) := by decide +kernel
theorem dM_whole_22 : decode cM_whole 22 = .ok (.ifCond .ne 15, 3) := by decide +kernel
theorem dM_whole_25 : decode cM_whole 25 = .ok (.aload_n 0, 1) := by decide +kernel
theorem dM_whole_26 : decode cM_whole 26 = .ok (.iload_n 1, 1) := by decide +kernel
theorem dM_whole_27 : decode cM_whole 27 = .ok (.invokevirtual 68, 3) := by decide +kernel
theorem dM_whole_30 : decode cM_whole 30 = .ok (.ifCond .ne 7, 3) := by decide +kernel
theorem dM_whole_33 : decode cM_whole 33 = .ok (.iconst 1, 1) := by decide +kernel
theorem dM_whole_34 : decode cM_whole 34 = .ok (.goto 4, 3) := by decide +kernel
theorem dM_whole_37 : decode cM_whole 37 = .ok (.iconst 0, 1) := by decide +kernel
theorem dM_whole_38 : decode cM_whole 38 = .ok (.ireturn, 1) := by decide +kernel
theorem dM_number_0 : decode cM_number 0 = .ok (.aload_n 0, 1) := by decide +kernel
theorem dM_number_1 : decode cM_number 1 = .ok (.iconst 0, 1) := by decide +kernel
theorem dM_number_2 : decode cM_number 2 = .ok (.putfield 27, 3) := by decide +kernel
theorem dM_number_5 : decode cM_number 5 = .ok (.aload_n 0, 1) := by decide +kernel
theorem dM_number_6 : decode cM_number 6 = .ok (.iload_n 1, 1) := by decide +kernel
theorem dM_number_7 : decode cM_number 7 = .ok (.invokestatic 43, 3) := by decide +kernel
theorem dM_number_10 : decode cM_number 10 = .ok (.ifCond .ne 7, 3) := by decide +kernel
theorem dM_number_13 : decode cM_number 13 = .ok (.iconst 1, 1) := by decide +kernel
theorem dM_number_14 : decode cM_number 14 = .ok (.goto 4, 3) := by decide +kernel
theorem dM_number_17 : decode cM_number 17 = .ok (.iconst 0, 1) := by decide +kernel
theorem dM_number_18 : decode cM_number 18 = .ok (.iconst 1, 1) := by decide +kernel
theorem dM_number_19 : decode cM_number 19 = .ok (.invokevirtual 46, 3) := by decide +kernel
theorem dM_number_22 : decode cM_number 22 = .ok (.ifCond .eq 4, 3) := by decide +kernel
theorem dM_number_25 : decode cM_number 25 = .ok (.return_, 1) := by decide +kernel
theorem dM_number_26 : decode cM_number 26 = .ok (.aload_n 0, 1) := by decide +kernel
theorem dM_number_27 : decode cM_number 27 = .ok (.getfield 23, 3) := by decide +kernel
theorem dM_number_30 : decode cM_number 30 = .ok (.iload_n 1, 1) := by decide +kernel
theorem dM_number_31 : decode cM_number 31 = .ok (.lload_n 2, 1) := by decide +kernel
theorem dM_number_32 : decode cM_number 32 = .ok (.lastore, 1) := by decide +kernel
theorem dM_number_33 : decode cM_number 33 = .ok (.return_, 1) := by decide +kernel
theorem dM_holds_0 : decode cM_holds 0 = .ok (.aload_n 0, 1) := by decide +kernel
theorem dM_holds_1 : decode cM_holds 1 = .ok (.iload_n 1, 1) := by decide +kernel
theorem dM_holds_2 : decode cM_holds 2 = .ok (.iload_n 2, 1) := by decide +kernel
theorem dM_holds_3 : decode cM_holds 3 = .ok (.invokevirtual 52, 3) := by decide +kernel
theorem dM_holds_6 : decode cM_holds 6 = .ok (.istore 5, 2) := by decide +kernel
theorem dM_holds_8 : decode cM_holds 8 = .ok (.iload 5, 2) := by decide +kernel
theorem dM_holds_10 : decode cM_holds 10 = .ok (.bipush 64, 2) := by decide +kernel
theorem dM_holds_12 : decode cM_holds 12 = .ok (.if_icmp .ne 5, 3) := by decide +kernel
theorem dM_holds_15 : decode cM_holds 15 = .ok (.iconst 1, 1) := by decide +kernel
theorem dM_holds_16 : decode cM_holds 16 = .ok (.ireturn, 1) := by decide +kernel
theorem dM_holds_17 : decode cM_holds 17 = .ok (.aload_n 0, 1) := by decide +kernel
theorem dM_holds_18 : decode cM_holds 18 = .ok (.getfield 19, 3) := by decide +kernel
theorem dM_holds_21 : decode cM_holds 21 = .ok (.bipush 6, 2) := by decide +kernel
theorem dM_holds_23 : decode cM_holds 23 = .ok (.iload_n 1, 1) := by decide +kernel
theorem dM_holds_24 : decode cM_holds 24 = .ok (.imul, 1) := by decide +kernel
theorem dM_holds_25 : decode cM_holds 25 = .ok (.iload_n 2, 1) := by decide +kernel
theorem dM_holds_26 : decode cM_holds 26 = .ok (.iadd, 1) := by decide +kernel
theorem dM_holds_27 : decode cM_holds 27 = .ok (.baload, 1) := by decide +kernel
theorem dM_holds_28 : decode cM_holds 28 = .ok (.istore 6, 2) := by decide +kernel
theorem dM_holds_30 : decode cM_holds 30 = .ok (.iload 6, 2) := by decide +kernel
theorem dM_holds_32 : decode cM_holds 32 = .ok (.ifCond .eq 14, 3) := by decide +kernel
theorem dM_holds_35 : decode cM_holds 35 = .ok (.lload_n 3, 1) := by decide +kernel
theorem dM_holds_36 : decode cM_holds 36 = .ok (.iload 5, 2) := by decide +kernel
theorem dM_holds_38 : decode cM_holds 38 = .ok (.iconst 1, 1) := by decide +kernel
theorem dM_holds_39 : decode cM_holds 39 = .ok (.isub, 1) := by decide +kernel
theorem dM_holds_40 : decode cM_holds 40 = .ok (.invokestatic 56, 3) := by decide +kernel
theorem dM_holds_43 : decode cM_holds 43 = .ok (.goto 4, 3) := by decide +kernel
theorem dM_holds_46 : decode cM_holds 46 = .ok (.iconst 0, 1) := by decide +kernel
theorem dM_holds_47 : decode cM_holds 47 = .ok (.istore 7, 2) := by decide +kernel
theorem dM_holds_49 : decode cM_holds 49 = .ok (.iload 5, 2) := by decide +kernel
theorem dM_holds_51 : decode cM_holds 51 = .ok (.istore 8, 2) := by decide +kernel
theorem dM_holds_53 : decode cM_holds 53 = .ok (.iload 8, 2) := by decide +kernel
theorem dM_holds_55 : decode cM_holds 55 = .ok (.bipush 64, 2) := by decide +kernel
theorem dM_holds_57 : decode cM_holds 57 = .ok (.if_icmp .ge 22, 3) := by decide +kernel
theorem dM_holds_60 : decode cM_holds 60 = .ok (.lload_n 3, 1) := by decide +kernel
theorem dM_holds_61 : decode cM_holds 61 = .ok (.iload 8, 2) := by decide +kernel
theorem dM_holds_63 : decode cM_holds 63 = .ok (.invokestatic 56, 3) := by decide +kernel
theorem dM_holds_66 : decode cM_holds 66 = .ok (.iload 7, 2) := by decide +kernel
theorem dM_holds_68 : decode cM_holds 68 = .ok (.if_icmp .eq 5, 3) := by decide +kernel
theorem dM_holds_71 : decode cM_holds 71 = .ok (.iconst 0, 1) := by decide +kernel
theorem dM_holds_72 : decode cM_holds 72 = .ok (.ireturn, 1) := by decide +kernel
theorem dM_holds_73 : decode cM_holds 73 = .ok (.iinc 8 1, 3) := by decide +kernel
theorem dM_holds_76 : decode cM_holds 76 = .ok (.goto (-23), 3) := by decide +kernel
theorem dM_holds_79 : decode cM_holds 79 = .ok (.iconst 1, 1) := by decide +kernel
theorem dM_holds_80 : decode cM_holds 80 = .ok (.ireturn, 1) := by decide +kernel
theorem dM_fits_0 : decode cM_fits 0 = .ok (.aload_n 0, 1) := by decide +kernel
theorem dM_fits_1 : decode cM_fits 1 = .ok (.iconst 0, 1) := by decide +kernel
theorem dM_fits_2 : decode cM_fits 2 = .ok (.putfield 27, 3) := by decide +kernel
theorem dM_fits_5 : decode cM_fits 5 = .ok (.aload_n 0, 1) := by decide +kernel
theorem dM_fits_6 : decode cM_fits 6 = .ok (.aload_n 0, 1) := by decide +kernel
theorem dM_fits_7 : decode cM_fits 7 = .ok (.iload_n 1, 1) := by decide +kernel
theorem dM_fits_8 : decode cM_fits 8 = .ok (.iload_n 2, 1) := by decide +kernel
theorem dM_fits_9 : decode cM_fits 9 = .ok (.invokevirtual 60, 3) := by decide +kernel
theorem dM_fits_12 : decode cM_fits 12 = .ok (.ifCond .ne 7, 3) := by decide +kernel
theorem dM_fits_15 : decode cM_fits 15 = .ok (.iconst 1, 1) := by decide +kernel
theorem dM_fits_16 : decode cM_fits 16 = .ok (.goto 4, 3) := by decide +kernel
theorem dM_fits_19 : decode cM_fits 19 = .ok (.iconst 0, 1) := by decide +kernel
theorem dM_fits_20 : decode cM_fits 20 = .ok (.iconst 1, 1) := by decide +kernel
theorem dM_fits_21 : decode cM_fits 21 = .ok (.invokevirtual 46, 3) := by decide +kernel
theorem dM_fits_24 : decode cM_fits 24 = .ok (.ifCond .ne 17, 3) := by decide +kernel
theorem dM_fits_27 : decode cM_fits 27 = .ok (.aload_n 0, 1) := by decide +kernel
theorem dM_fits_28 : decode cM_fits 28 = .ok (.iload_n 1, 1) := by decide +kernel
theorem dM_fits_29 : decode cM_fits 29 = .ok (.iload_n 2, 1) := by decide +kernel
theorem dM_fits_30 : decode cM_fits 30 = .ok (.lload_n 3, 1) := by decide +kernel
theorem dM_fits_31 : decode cM_fits 31 = .ok (.invokevirtual 72, 3) := by decide +kernel
theorem dM_fits_34 : decode cM_fits 34 = .ok (.ifCond .eq 7, 3) := by decide +kernel
theorem dM_fits_37 : decode cM_fits 37 = .ok (.iconst 1, 1) := by decide +kernel
theorem dM_fits_38 : decode cM_fits 38 = .ok (.goto 4, 3) := by decide +kernel
theorem dM_fits_41 : decode cM_fits 41 = .ok (.iconst 0, 1) := by decide +kernel
theorem dM_fits_42 : decode cM_fits 42 = .ok (.ireturn, 1) := by decide +kernel
theorem dM_encode_0 : decode cM_encode 0 = .ok (.aload_n 0, 1) := by decide +kernel
theorem dM_encode_1 : decode cM_encode 1 = .ok (.iconst 0, 1) := by decide +kernel
theorem dM_encode_2 : decode cM_encode 2 = .ok (.putfield 27, 3) := by decide +kernel
theorem dM_encode_5 : decode cM_encode 5 = .ok (.aload_n 0, 1) := by decide +kernel
theorem dM_encode_6 : decode cM_encode 6 = .ok (.iload_n 1, 1) := by decide +kernel
theorem dM_encode_7 : decode cM_encode 7 = .ok (.invokestatic 39, 3) := by decide +kernel
theorem dM_encode_10 : decode cM_encode 10 = .ok (.ifCond .ne 7, 3) := by decide +kernel
theorem dM_encode_13 : decode cM_encode 13 = .ok (.iconst 1, 1) := by decide +kernel
theorem dM_encode_14 : decode cM_encode 14 = .ok (.goto 4, 3) := by decide +kernel
theorem dM_encode_17 : decode cM_encode 17 = .ok (.iconst 0, 1) := by decide +kernel
theorem dM_encode_18 : decode cM_encode 18 = .ok (.iconst 1, 1) := by decide +kernel
theorem dM_encode_19 : decode cM_encode 19 = .ok (.invokevirtual 46, 3) := by decide +kernel
theorem dM_encode_22 : decode cM_encode 22 = .ok (.ifCond .ne 24, 3) := by decide +kernel
theorem dM_encode_25 : decode cM_encode 25 = .ok (.aload_n 0, 1) := by decide +kernel
theorem dM_encode_26 : decode cM_encode 26 = .ok (.aload_n 0, 1) := by decide +kernel
theorem dM_encode_27 : decode cM_encode 27 = .ok (.iload_n 1, 1) := by decide +kernel
theorem dM_encode_28 : decode cM_encode 28 = .ok (.invokevirtual 68, 3) := by decide +kernel
theorem dM_encode_31 : decode cM_encode 31 = .ok (.ifCond .le 7, 3) := by decide +kernel
theorem dM_encode_34 : decode cM_encode 34 = .ok (.iconst 1, 1) := by decide +kernel
theorem dM_encode_35 : decode cM_encode 35 = .ok (.goto 4, 3) := by decide +kernel
theorem dM_encode_38 : decode cM_encode 38 = .ok (.iconst 0, 1) := by decide +kernel
theorem dM_encode_39 : decode cM_encode 39 = .ok (.iconst 2, 1) := by decide +kernel
theorem dM_encode_40 : decode cM_encode 40 = .ok (.invokevirtual 46, 3) := by decide +kernel
theorem dM_encode_43 : decode cM_encode 43 = .ok (.ifCond .eq 5, 3) := by decide +kernel
theorem dM_encode_46 : decode cM_encode 46 = .ok (.lconst 0, 1) := by decide +kernel
theorem dM_encode_47 : decode cM_encode 47 = .ok (.lreturn, 1) := by decide +kernel
theorem dM_encode_48 : decode cM_encode 48 = .ok (.iconst 0, 1) := by decide +kernel
theorem dM_encode_49 : decode cM_encode 49 = .ok (.istore_n 2, 1) := by decide +kernel
theorem dM_encode_50 : decode cM_encode 50 = .ok (.iload_n 2, 1) := by decide +kernel
theorem dM_encode_51 : decode cM_encode 51 = .ok (.bipush 6, 2) := by decide +kernel
theorem dM_encode_53 : decode cM_encode 53 = .ok (.if_icmp .ge 48, 3) := by decide +kernel
theorem dM_encode_56 : decode cM_encode 56 = .ok (.aload_n 0, 1) := by decide +kernel
theorem dM_encode_57 : decode cM_encode 57 = .ok (.aload_n 0, 1) := by decide +kernel
theorem dM_encode_58 : decode cM_encode 58 = .ok (.iload_n 1, 1) := by decide +kernel
theorem dM_encode_59 : decode cM_encode 59 = .ok (.iload_n 2, 1) := by decide +kernel
theorem dM_encode_60 : decode cM_encode 60 = .ok (.invokevirtual 52, 3) := by decide +kernel
theorem dM_encode_63 : decode cM_encode 63 = .ok (.ifCond .le 22, 3) := by decide +kernel
theorem dM_encode_66 : decode cM_encode 66 = .ok (.aload_n 0, 1) := by decide +kernel
theorem dM_encode_67 : decode cM_encode 67 = .ok (.iload_n 1, 1) := by decide +kernel
theorem dM_encode_68 : decode cM_encode 68 = .ok (.iload_n 2, 1) := by decide +kernel
theorem dM_encode_69 : decode cM_encode 69 = .ok (.aload_n 0, 1) := by decide +kernel
theorem dM_encode_70 : decode cM_encode 70 = .ok (.getfield 23, 3) := by decide +kernel
theorem dM_encode_73 : decode cM_encode 73 = .ok (.iload_n 2, 1) := by decide +kernel
theorem dM_encode_74 : decode cM_encode 74 = .ok (.laload, 1) := by decide +kernel
theorem dM_encode_75 : decode cM_encode 75 = .ok (.invokevirtual 72, 3) := by decide +kernel
theorem dM_encode_78 : decode cM_encode 78 = .ok (.ifCond .ne 7, 3) := by decide +kernel
theorem dM_encode_81 : decode cM_encode 81 = .ok (.iconst 1, 1) := by decide +kernel
theorem dM_encode_82 : decode cM_encode 82 = .ok (.goto 4, 3) := by decide +kernel
theorem dM_encode_85 : decode cM_encode 85 = .ok (.iconst 0, 1) := by decide +kernel
theorem dM_encode_86 : decode cM_encode 86 = .ok (.iconst 3, 1) := by decide +kernel
theorem dM_encode_87 : decode cM_encode 87 = .ok (.invokevirtual 46, 3) := by decide +kernel
theorem dM_encode_90 : decode cM_encode 90 = .ok (.ifCond .eq 5, 3) := by decide +kernel
theorem dM_encode_93 : decode cM_encode 93 = .ok (.lconst 0, 1) := by decide +kernel
theorem dM_encode_94 : decode cM_encode 94 = .ok (.lreturn, 1) := by decide +kernel
theorem dM_encode_95 : decode cM_encode 95 = .ok (.iinc 2 1, 3) := by decide +kernel
theorem dM_encode_98 : decode cM_encode 98 = .ok (.goto (-48), 3) := by decide +kernel
theorem dM_encode_101 : decode cM_encode 101 = .ok (.lconst 0, 1) := by decide +kernel
theorem dM_encode_102 : decode cM_encode 102 = .ok (.lstore_n 2, 1) := by decide +kernel
theorem dM_encode_103 : decode cM_encode 103 = .ok (.iconst 0, 1) := by decide +kernel
theorem dM_encode_104 : decode cM_encode 104 = .ok (.istore 4, 2) := by decide +kernel
theorem dM_encode_106 : decode cM_encode 106 = .ok (.iload 4, 2) := by decide +kernel
theorem dM_encode_108 : decode cM_encode 108 = .ok (.aload_n 0, 1) := by decide +kernel
theorem dM_encode_109 : decode cM_encode 109 = .ok (.getfield 9, 3) := by decide +kernel
theorem dM_encode_112 : decode cM_encode 112 = .ok (.iload_n 1, 1) := by decide +kernel
theorem dM_encode_113 : decode cM_encode 113 = .ok (.iaload, 1) := by decide +kernel
theorem dM_encode_114 : decode cM_encode 114 = .ok (.if_icmp .ge 66, 3) := by decide +kernel
theorem dM_encode_117 : decode cM_encode 117 = .ok (.aload_n 0, 1) := by decide +kernel
theorem dM_encode_118 : decode cM_encode 118 = .ok (.iload_n 1, 1) := by decide +kernel
theorem dM_encode_119 : decode cM_encode 119 = .ok (.iload 4, 2) := by decide +kernel
theorem dM_encode_121 : decode cM_encode 121 = .ok (.invokevirtual 76, 3) := by decide +kernel
theorem dM_encode_124 : decode cM_encode 124 = .ok (.istore 5, 2) := by decide +kernel
theorem dM_encode_126 : decode cM_encode 126 = .ok (.iload 5, 2) := by decide +kernel
theorem dM_encode_128 : decode cM_encode 128 = .ok (.iconst 2, 1) := by decide +kernel
theorem dM_encode_129 : decode cM_encode 129 = .ok (.if_icmp .ge 8, 3) := by decide +kernel
theorem dM_encode_132 : decode cM_encode 132 = .ok (.iload 5, 2) := by decide +kernel
theorem dM_encode_134 : decode cM_encode 134 = .ok (.goto 25, 3) := by decide +kernel
theorem dM_encode_137 : decode cM_encode 137 = .ok (.aload_n 0, 1) := by decide +kernel
theorem dM_encode_138 : decode cM_encode 138 = .ok (.getfield 23, 3) := by decide +kernel
theorem dM_encode_141 : decode cM_encode 141 = .ok (.iload 5, 2) := by decide +kernel
theorem dM_encode_143 : decode cM_encode 143 = .ok (.iconst 2, 1) := by decide +kernel
theorem dM_encode_144 : decode cM_encode 144 = .ok (.isub, 1) := by decide +kernel
theorem dM_encode_145 : decode cM_encode 145 = .ok (.bipush 64, 2) := by decide +kernel
theorem dM_encode_147 : decode cM_encode 147 = .ok (.idiv, 1) := by decide +kernel
theorem dM_encode_148 : decode cM_encode 148 = .ok (.laload, 1) := by decide +kernel
theorem dM_encode_149 : decode cM_encode 149 = .ok (.iload 5, 2) := by decide +kernel
theorem dM_encode_151 : decode cM_encode 151 = .ok (.iconst 2, 1) := by decide +kernel
theorem dM_encode_152 : decode cM_encode 152 = .ok (.isub, 1) := by decide +kernel
theorem dM_encode_153 : decode cM_encode 153 = .ok (.bipush 64, 2) := by decide +kernel
theorem dM_encode_155 : decode cM_encode 155 = .ok (.irem, 1) := by decide +kernel
theorem dM_encode_156 : decode cM_encode 156 = .ok (.invokestatic 56, 3) := by decide +kernel
theorem dM_encode_159 : decode cM_encode 159 = .ok (.istore 6, 2) := by decide +kernel
theorem dM_encode_161 : decode cM_encode 161 = .ok (.iload 6, 2) := by decide +kernel
theorem dM_encode_163 : decode cM_encode 163 = .ok (.iconst 1, 1) := by decide +kernel
theorem dM_encode_164 : decode cM_encode 164 = .ok (.if_icmp .ne 10, 3) := by decide +kernel
theorem dM_encode_167 : decode cM_encode 167 = .ok (.lload_n 2, 1) := by decide +kernel
theorem dM_encode_168 : decode cM_encode 168 = .ok (.lconst 1, 1) := by decide +kernel
theorem dM_encode_169 : decode cM_encode 169 = .ok (.iload 4, 2) := by decide +kernel
theorem dM_encode_171 : decode cM_encode 171 = .ok (.lshl, 1) := by decide +kernel
theorem dM_encode_172 : decode cM_encode 172 = .ok (.lor, 1) := by decide +kernel
theorem dM_encode_173 : decode cM_encode 173 = .ok (.lstore_n 2, 1) := by decide +kernel
theorem dM_encode_174 : decode cM_encode 174 = .ok (.iinc 4 1, 3) := by decide +kernel
theorem dM_encode_177 : decode cM_encode 177 = .ok (.goto (-71), 3) := by decide +kernel
theorem dM_encode_180 : decode cM_encode 180 = .ok (.lload_n 2, 1) := by decide +kernel
theorem dM_encode_181 : decode cM_encode 181 = .ok (.lreturn, 1) := by decide +kernel
theorem dM_isOf_0 : decode cM_isOf 0 = .ok (.iconst 0, 1) := by decide +kernel
theorem dM_isOf_1 : decode cM_isOf 1 = .ok (.istore 4, 2) := by decide +kernel
theorem dM_isOf_3 : decode cM_isOf 3 = .ok (.iload 4, 2) := by decide +kernel
theorem dM_isOf_5 : decode cM_isOf 5 = .ok (.bipush 64, 2) := by decide +kernel
theorem dM_isOf_7 : decode cM_isOf 7 = .ok (.if_icmp .ge 61, 3) := by decide +kernel
theorem dM_isOf_10 : decode cM_isOf 10 = .ok (.iload 4, 2) := by decide +kernel
theorem dM_isOf_12 : decode cM_isOf 12 = .ok (.aload_n 0, 1) := by decide +kernel
theorem dM_isOf_13 : decode cM_isOf 13 = .ok (.getfield 9, 3) := by decide +kernel
theorem dM_isOf_16 : decode cM_isOf 16 = .ok (.iload_n 1, 1) := by decide +kernel
theorem dM_isOf_17 : decode cM_isOf 17 = .ok (.iaload, 1) := by decide +kernel
theorem dM_isOf_18 : decode cM_isOf 18 = .ok (.if_icmp .lt 15, 3) := by decide +kernel
theorem dM_isOf_21 : decode cM_isOf 21 = .ok (.lload_n 2, 1) := by decide +kernel
theorem dM_isOf_22 : decode cM_isOf 22 = .ok (.iload 4, 2) := by decide +kernel
theorem dM_isOf_24 : decode cM_isOf 24 = .ok (.invokestatic 56, 3) := by decide +kernel
theorem dM_isOf_27 : decode cM_isOf 27 = .ok (.ifCond .eq 35, 3) := by decide +kernel
theorem dM_isOf_30 : decode cM_isOf 30 = .ok (.goto 30, 3) := by decide +kernel
theorem dM_isOf_33 : decode cM_isOf 33 = .ok (.aload_n 0, 1) := by decide +kernel
theorem dM_isOf_34 : decode cM_isOf 34 = .ok (.iload_n 1, 1) := by decide +kernel
theorem dM_isOf_35 : decode cM_isOf 35 = .ok (.iload 4, 2) := by decide +kernel
theorem dM_isOf_37 : decode cM_isOf 37 = .ok (.invokevirtual 76, 3) := by decide +kernel
theorem dM_isOf_40 : decode cM_isOf 40 = .ok (.iconst 2, 1) := by decide +kernel
theorem dM_isOf_41 : decode cM_isOf 41 = .ok (.if_icmp .ge 21, 3) := by decide +kernel
theorem dM_isOf_44 : decode cM_isOf 44 = .ok (.aload_n 0, 1) := by decide +kernel
theorem dM_isOf_45 : decode cM_isOf 45 = .ok (.iload_n 1, 1) := by decide +kernel
theorem dM_isOf_46 : decode cM_isOf 46 = .ok (.iload 4, 2) := by decide +kernel
theorem dM_isOf_48 : decode cM_isOf 48 = .ok (.invokevirtual 76, 3) := by decide +kernel
theorem dM_isOf_51 : decode cM_isOf 51 = .ok (.lload_n 2, 1) := by decide +kernel
theorem dM_isOf_52 : decode cM_isOf 52 = .ok (.iload 4, 2) := by decide +kernel
theorem dM_isOf_54 : decode cM_isOf 54 = .ok (.invokestatic 56, 3) := by decide +kernel
theorem dM_isOf_57 : decode cM_isOf 57 = .ok (.if_icmp .eq 5, 3) := by decide +kernel
theorem dM_isOf_60 : decode cM_isOf 60 = .ok (.iconst 0, 1) := by decide +kernel
theorem dM_isOf_61 : decode cM_isOf 61 = .ok (.ireturn, 1) := by decide +kernel
theorem dM_isOf_62 : decode cM_isOf 62 = .ok (.iinc 4 1, 3) := by decide +kernel
theorem dM_isOf_65 : decode cM_isOf 65 = .ok (.goto (-62), 3) := by decide +kernel
theorem dM_isOf_68 : decode cM_isOf 68 = .ok (.iconst 1, 1) := by decide +kernel
theorem dM_isOf_69 : decode cM_isOf 69 = .ok (.ireturn, 1) := by decide +kernel
theorem dM_is_0 : decode cM_is 0 = .ok (.aload_n 0, 1) := by decide +kernel
theorem dM_is_1 : decode cM_is 1 = .ok (.iconst 0, 1) := by decide +kernel
theorem dM_is_2 : decode cM_is 2 = .ok (.putfield 27, 3) := by decide +kernel
theorem dM_is_5 : decode cM_is 5 = .ok (.aload_n 0, 1) := by decide +kernel
theorem dM_is_6 : decode cM_is 6 = .ok (.iload_n 1, 1) := by decide +kernel
theorem dM_is_7 : decode cM_is 7 = .ok (.invokestatic 39, 3) := by decide +kernel
theorem dM_is_10 : decode cM_is 10 = .ok (.ifCond .ne 7, 3) := by decide +kernel
theorem dM_is_13 : decode cM_is 13 = .ok (.iconst 1, 1) := by decide +kernel
theorem dM_is_14 : decode cM_is 14 = .ok (.goto 4, 3) := by decide +kernel
theorem dM_is_17 : decode cM_is 17 = .ok (.iconst 0, 1) := by decide +kernel
theorem dM_is_18 : decode cM_is 18 = .ok (.iconst 1, 1) := by decide +kernel
theorem dM_is_19 : decode cM_is 19 = .ok (.invokevirtual 46, 3) := by decide +kernel
theorem dM_is_22 : decode cM_is 22 = .ok (.ifCond .ne 16, 3) := by decide +kernel
theorem dM_is_25 : decode cM_is 25 = .ok (.aload_n 0, 1) := by decide +kernel
theorem dM_is_26 : decode cM_is 26 = .ok (.iload_n 1, 1) := by decide +kernel
theorem dM_is_27 : decode cM_is 27 = .ok (.lload_n 2, 1) := by decide +kernel
theorem dM_is_28 : decode cM_is 28 = .ok (.invokevirtual 79, 3) := by decide +kernel
theorem dM_is_31 : decode cM_is 31 = .ok (.ifCond .eq 7, 3) := by decide +kernel
theorem dM_is_34 : decode cM_is 34 = .ok (.iconst 1, 1) := by decide +kernel
theorem dM_is_35 : decode cM_is 35 = .ok (.goto 4, 3) := by decide +kernel
theorem dM_is_38 : decode cM_is 38 = .ok (.iconst 0, 1) := by decide +kernel
theorem dM_is_39 : decode cM_is 39 = .ok (.ireturn, 1) := by decide +kernel
theorem dM_decode_0 : decode cM_decode 0 = .ok (.aload_n 0, 1) := by decide +kernel
theorem dM_decode_1 : decode cM_decode 1 = .ok (.iconst 0, 1) := by decide +kernel
theorem dM_decode_2 : decode cM_decode 2 = .ok (.putfield 27, 3) := by decide +kernel
theorem dM_decode_5 : decode cM_decode 5 = .ok (.aload_n 0, 1) := by decide +kernel
theorem dM_decode_6 : decode cM_decode 6 = .ok (.aload_n 0, 1) := by decide +kernel
theorem dM_decode_7 : decode cM_decode 7 = .ok (.iload_n 1, 1) := by decide +kernel
theorem dM_decode_8 : decode cM_decode 8 = .ok (.iload_n 2, 1) := by decide +kernel
theorem dM_decode_9 : decode cM_decode 9 = .ok (.invokevirtual 60, 3) := by decide +kernel
theorem dM_decode_12 : decode cM_decode 12 = .ok (.ifCond .ne 7, 3) := by decide +kernel
theorem dM_decode_15 : decode cM_decode 15 = .ok (.iconst 1, 1) := by decide +kernel
theorem dM_decode_16 : decode cM_decode 16 = .ok (.goto 4, 3) := by decide +kernel
theorem dM_decode_19 : decode cM_decode 19 = .ok (.iconst 0, 1) := by decide +kernel
theorem dM_decode_20 : decode cM_decode 20 = .ok (.iconst 1, 1) := by decide +kernel
theorem dM_decode_21 : decode cM_decode 21 = .ok (.invokevirtual 46, 3) := by decide +kernel
theorem dM_decode_24 : decode cM_decode 24 = .ok (.ifCond .ne 46, 3) := by decide +kernel
theorem dM_decode_27 : decode cM_decode 27 = .ok (.aload_n 0, 1) := by decide +kernel
theorem dM_decode_28 : decode cM_decode 28 = .ok (.aload_n 0, 1) := by decide +kernel
theorem dM_decode_29 : decode cM_decode 29 = .ok (.iload_n 1, 1) := by decide +kernel
theorem dM_decode_30 : decode cM_decode 30 = .ok (.invokevirtual 68, 3) := by decide +kernel
theorem dM_decode_33 : decode cM_decode 33 = .ok (.ifCond .le 7, 3) := by decide +kernel
theorem dM_decode_36 : decode cM_decode 36 = .ok (.iconst 1, 1) := by decide +kernel
theorem dM_decode_37 : decode cM_decode 37 = .ok (.goto 4, 3) := by decide +kernel
theorem dM_decode_40 : decode cM_decode 40 = .ok (.iconst 0, 1) := by decide +kernel
theorem dM_decode_41 : decode cM_decode 41 = .ok (.iconst 2, 1) := by decide +kernel
theorem dM_decode_42 : decode cM_decode 42 = .ok (.invokevirtual 46, 3) := by decide +kernel
theorem dM_decode_45 : decode cM_decode 45 = .ok (.ifCond .ne 25, 3) := by decide +kernel
theorem dM_decode_48 : decode cM_decode 48 = .ok (.aload_n 0, 1) := by decide +kernel
theorem dM_decode_49 : decode cM_decode 49 = .ok (.aload_n 0, 1) := by decide +kernel
theorem dM_decode_50 : decode cM_decode 50 = .ok (.iload_n 1, 1) := by decide +kernel
theorem dM_decode_51 : decode cM_decode 51 = .ok (.lload_n 3, 1) := by decide +kernel
theorem dM_decode_52 : decode cM_decode 52 = .ok (.invokevirtual 79, 3) := by decide +kernel
theorem dM_decode_55 : decode cM_decode 55 = .ok (.ifCond .ne 7, 3) := by decide +kernel
theorem dM_decode_58 : decode cM_decode 58 = .ok (.iconst 1, 1) := by decide +kernel
theorem dM_decode_59 : decode cM_decode 59 = .ok (.goto 4, 3) := by decide +kernel
theorem dM_decode_62 : decode cM_decode 62 = .ok (.iconst 0, 1) := by decide +kernel
theorem dM_decode_63 : decode cM_decode 63 = .ok (.iconst 3, 1) := by decide +kernel
theorem dM_decode_64 : decode cM_decode 64 = .ok (.invokevirtual 46, 3) := by decide +kernel
theorem dM_decode_67 : decode cM_decode 67 = .ok (.ifCond .eq 5, 3) := by decide +kernel
theorem dM_decode_70 : decode cM_decode 70 = .ok (.lconst 0, 1) := by decide +kernel
theorem dM_decode_71 : decode cM_decode 71 = .ok (.lreturn, 1) := by decide +kernel
theorem dM_decode_72 : decode cM_decode 72 = .ok (.aload_n 0, 1) := by decide +kernel
theorem dM_decode_73 : decode cM_decode 73 = .ok (.iload_n 1, 1) := by decide +kernel
theorem dM_decode_74 : decode cM_decode 74 = .ok (.iload_n 2, 1) := by decide +kernel
theorem dM_decode_75 : decode cM_decode 75 = .ok (.invokevirtual 52, 3) := by decide +kernel
theorem dM_decode_78 : decode cM_decode 78 = .ok (.istore 5, 2) := by decide +kernel
theorem dM_decode_80 : decode cM_decode 80 = .ok (.lconst 0, 1) := by decide +kernel
theorem dM_decode_81 : decode cM_decode 81 = .ok (.lstore 6, 2) := by decide +kernel
theorem dM_decode_83 : decode cM_decode 83 = .ok (.iconst 0, 1) := by decide +kernel
theorem dM_decode_84 : decode cM_decode 84 = .ok (.istore 8, 2) := by decide +kernel
theorem dM_decode_86 : decode cM_decode 86 = .ok (.iload 8, 2) := by decide +kernel
theorem dM_decode_88 : decode cM_decode 88 = .ok (.bipush 64, 2) := by decide +kernel
theorem dM_decode_90 : decode cM_decode 90 = .ok (.if_icmp .ge 95, 3) := by decide +kernel
theorem dM_decode_93 : decode cM_decode 93 = .ok (.iload 8, 2) := by decide +kernel
theorem dM_decode_95 : decode cM_decode 95 = .ok (.iload 5, 2) := by decide +kernel
theorem dM_decode_97 : decode cM_decode 97 = .ok (.if_icmp .ge 7, 3) := by decide +kernel
theorem dM_decode_100 : decode cM_decode 100 = .ok (.iconst 1, 1) := by decide +kernel
theorem dM_decode_101 : decode cM_decode 101 = .ok (.goto 4, 3) := by decide +kernel
theorem dM_decode_104 : decode cM_decode 104 = .ok (.iconst 0, 1) := by decide +kernel
theorem dM_decode_105 : decode cM_decode 105 = .ok (.istore 9, 2) := by decide +kernel
theorem dM_decode_107 : decode cM_decode 107 = .ok (.iload 9, 2) := by decide +kernel
theorem dM_decode_109 : decode cM_decode 109 = .ok (.ifCond .ne 20, 3) := by decide +kernel
theorem dM_decode_112 : decode cM_decode 112 = .ok (.aload_n 0, 1) := by decide +kernel
theorem dM_decode_113 : decode cM_decode 113 = .ok (.getfield 19, 3) := by decide +kernel
theorem dM_decode_116 : decode cM_decode 116 = .ok (.bipush 6, 2) := by decide +kernel
theorem dM_decode_118 : decode cM_decode 118 = .ok (.iload_n 1, 1) := by decide +kernel
theorem dM_decode_119 : decode cM_decode 119 = .ok (.imul, 1) := by decide +kernel
theorem dM_decode_120 : decode cM_decode 120 = .ok (.iload_n 2, 1) := by decide +kernel
theorem dM_decode_121 : decode cM_decode 121 = .ok (.iadd, 1) := by decide +kernel
theorem dM_decode_122 : decode cM_decode 122 = .ok (.baload, 1) := by decide +kernel
theorem dM_decode_123 : decode cM_decode 123 = .ok (.ifCond .ne 6, 3) := by decide +kernel
theorem dM_decode_126 : decode cM_decode 126 = .ok (.goto 59, 3) := by decide +kernel
theorem dM_decode_129 : decode cM_decode 129 = .ok (.aload_n 0, 1) := by decide +kernel
theorem dM_decode_130 : decode cM_decode 130 = .ok (.getfield 9, 3) := by decide +kernel
theorem dM_decode_133 : decode cM_decode 133 = .ok (.iload_n 1, 1) := by decide +kernel
theorem dM_decode_134 : decode cM_decode 134 = .ok (.iaload, 1) := by decide +kernel
theorem dM_decode_135 : decode cM_decode 135 = .ok (.iconst 1, 1) := by decide +kernel
theorem dM_decode_136 : decode cM_decode 136 = .ok (.isub, 1) := by decide +kernel
theorem dM_decode_137 : decode cM_decode 137 = .ok (.aload_n 0, 1) := by decide +kernel
theorem dM_decode_138 : decode cM_decode 138 = .ok (.iload_n 1, 1) := by decide +kernel
theorem dM_decode_139 : decode cM_decode 139 = .ok (.iload_n 2, 1) := by decide +kernel
theorem dM_decode_140 : decode cM_decode 140 = .ok (.iload 9, 2) := by decide +kernel
theorem dM_decode_142 : decode cM_decode 142 = .ok (.ifCond .eq 8, 3) := by decide +kernel
theorem dM_decode_145 : decode cM_decode 145 = .ok (.iload 8, 2) := by decide +kernel
theorem dM_decode_147 : decode cM_decode 147 = .ok (.goto 7, 3) := by decide +kernel
theorem dM_decode_150 : decode cM_decode 150 = .ok (.iload 5, 2) := by decide +kernel
theorem dM_decode_152 : decode cM_decode 152 = .ok (.iconst 1, 1) := by decide +kernel
theorem dM_decode_153 : decode cM_decode 153 = .ok (.isub, 1) := by decide +kernel
theorem dM_decode_154 : decode cM_decode 154 = .ok (.invokevirtual 64, 3) := by decide +kernel
theorem dM_decode_157 : decode cM_decode 157 = .ok (.isub, 1) := by decide +kernel
theorem dM_decode_158 : decode cM_decode 158 = .ok (.istore 10, 2) := by decide +kernel
theorem dM_decode_160 : decode cM_decode 160 = .ok (.lload_n 3, 1) := by decide +kernel
theorem dM_decode_161 : decode cM_decode 161 = .ok (.iload 10, 2) := by decide +kernel
theorem dM_decode_163 : decode cM_decode 163 = .ok (.invokestatic 56, 3) := by decide +kernel
theorem dM_decode_166 : decode cM_decode 166 = .ok (.iconst 1, 1) := by decide +kernel
theorem dM_decode_167 : decode cM_decode 167 = .ok (.if_icmp .ne 12, 3) := by decide +kernel
theorem dM_decode_170 : decode cM_decode 170 = .ok (.lload 6, 2) := by decide +kernel
theorem dM_decode_172 : decode cM_decode 172 = .ok (.lconst 1, 1) := by decide +kernel
theorem dM_decode_173 : decode cM_decode 173 = .ok (.iload 8, 2) := by decide +kernel
theorem dM_decode_175 : decode cM_decode 175 = .ok (.lshl, 1) := by decide +kernel
theorem dM_decode_176 : decode cM_decode 176 = .ok (.lor, 1) := by decide +kernel
theorem dM_decode_177 : decode cM_decode 177 = .ok (.lstore 6, 2) := by decide +kernel
theorem dM_decode_179 : decode cM_decode 179 = .ok (.iinc 8 1, 3) := by decide +kernel
theorem dM_decode_182 : decode cM_decode 182 = .ok (.goto (-96), 3) := by decide +kernel
theorem dM_decode_185 : decode cM_decode 185 = .ok (.lload 6, 2) := by decide +kernel
theorem dM_decode_187 : decode cM_decode 187 = .ok (.lreturn, 1) := by decide +kernel
theorem dM_meet_0 : decode cM_meet 0 = .ok (.aload_n 0, 1) := by decide +kernel
theorem dM_meet_1 : decode cM_meet 1 = .ok (.iconst 0, 1) := by decide +kernel
theorem dM_meet_2 : decode cM_meet 2 = .ok (.putfield 27, 3) := by decide +kernel
theorem dM_meet_5 : decode cM_meet 5 = .ok (.aload_n 0, 1) := by decide +kernel
theorem dM_meet_6 : decode cM_meet 6 = .ok (.iload_n 1, 1) := by decide +kernel
theorem dM_meet_7 : decode cM_meet 7 = .ok (.invokestatic 39, 3) := by decide +kernel
theorem dM_meet_10 : decode cM_meet 10 = .ok (.ifCond .eq 10, 3) := by decide +kernel
theorem dM_meet_13 : decode cM_meet 13 = .ok (.iload_n 2, 1) := by decide +kernel
theorem dM_meet_14 : decode cM_meet 14 = .ok (.invokestatic 39, 3) := by decide +kernel
theorem dM_meet_17 : decode cM_meet 17 = .ok (.ifCond .ne 7, 3) := by decide +kernel
theorem dM_meet_20 : decode cM_meet 20 = .ok (.iconst 1, 1) := by decide +kernel
theorem dM_meet_21 : decode cM_meet 21 = .ok (.goto 4, 3) := by decide +kernel
theorem dM_meet_24 : decode cM_meet 24 = .ok (.iconst 0, 1) := by decide +kernel
theorem dM_meet_25 : decode cM_meet 25 = .ok (.iconst 1, 1) := by decide +kernel
theorem dM_meet_26 : decode cM_meet 26 = .ok (.invokevirtual 46, 3) := by decide +kernel
theorem dM_meet_29 : decode cM_meet 29 = .ok (.ifCond .eq 5, 3) := by decide +kernel
theorem dM_meet_32 : decode cM_meet 32 = .ok (.iconst 0, 1) := by decide +kernel
theorem dM_meet_33 : decode cM_meet 33 = .ok (.ireturn, 1) := by decide +kernel
theorem dM_meet_34 : decode cM_meet 34 = .ok (.iconst 0, 1) := by decide +kernel
theorem dM_meet_35 : decode cM_meet 35 = .ok (.istore_n 3, 1) := by decide +kernel
theorem dM_meet_36 : decode cM_meet 36 = .ok (.iload_n 3, 1) := by decide +kernel
theorem dM_meet_37 : decode cM_meet 37 = .ok (.bipush 64, 2) := by decide +kernel
theorem dM_meet_39 : decode cM_meet 39 = .ok (.if_icmp .ge 74, 3) := by decide +kernel
theorem dM_meet_42 : decode cM_meet 42 = .ok (.iload_n 3, 1) := by decide +kernel
theorem dM_meet_43 : decode cM_meet 43 = .ok (.aload_n 0, 1) := by decide +kernel
theorem dM_meet_44 : decode cM_meet 44 = .ok (.getfield 9, 3) := by decide +kernel
theorem dM_meet_47 : decode cM_meet 47 = .ok (.iload_n 1, 1) := by decide +kernel
theorem dM_meet_48 : decode cM_meet 48 = .ok (.iaload, 1) := by decide +kernel
theorem dM_meet_49 : decode cM_meet 49 = .ok (.if_icmp .ge 12, 3) := by decide +kernel
theorem dM_meet_52 : decode cM_meet 52 = .ok (.aload_n 0, 1) := by decide +kernel
theorem dM_meet_53 : decode cM_meet 53 = .ok (.iload_n 1, 1) := by decide +kernel
theorem dM_meet_54 : decode cM_meet 54 = .ok (.iload_n 3, 1) := by decide +kernel
theorem dM_meet_55 : decode cM_meet 55 = .ok (.invokevirtual 76, 3) := by decide +kernel
theorem dM_meet_58 : decode cM_meet 58 = .ok (.goto 4, 3) := by decide +kernel
theorem dM_meet_61 : decode cM_meet 61 = .ok (.iconst 0, 1) := by decide +kernel
theorem dM_meet_62 : decode cM_meet 62 = .ok (.istore 4, 2) := by decide +kernel
theorem dM_meet_64 : decode cM_meet 64 = .ok (.iload_n 3, 1) := by decide +kernel
theorem dM_meet_65 : decode cM_meet 65 = .ok (.aload_n 0, 1) := by decide +kernel
theorem dM_meet_66 : decode cM_meet 66 = .ok (.getfield 9, 3) := by decide +kernel
theorem dM_meet_69 : decode cM_meet 69 = .ok (.iload_n 2, 1) := by decide +kernel
theorem dM_meet_70 : decode cM_meet 70 = .ok (.iaload, 1) := by decide +kernel
theorem dM_meet_71 : decode cM_meet 71 = .ok (.if_icmp .ge 12, 3) := by decide +kernel
theorem dM_meet_74 : decode cM_meet 74 = .ok (.aload_n 0, 1) := by decide +kernel
theorem dM_meet_75 : decode cM_meet 75 = .ok (.iload_n 2, 1) := by decide +kernel
theorem dM_meet_76 : decode cM_meet 76 = .ok (.iload_n 3, 1) := by decide +kernel
theorem dM_meet_77 : decode cM_meet 77 = .ok (.invokevirtual 76, 3) := by decide +kernel
theorem dM_meet_80 : decode cM_meet 80 = .ok (.goto 4, 3) := by decide +kernel
theorem dM_meet_83 : decode cM_meet 83 = .ok (.iconst 0, 1) := by decide +kernel
theorem dM_meet_84 : decode cM_meet 84 = .ok (.istore 5, 2) := by decide +kernel
theorem dM_meet_86 : decode cM_meet 86 = .ok (.iload 4, 2) := by decide +kernel
theorem dM_meet_88 : decode cM_meet 88 = .ok (.iconst 2, 1) := by decide +kernel
theorem dM_meet_89 : decode cM_meet 89 = .ok (.if_icmp .ge 18, 3) := by decide +kernel
theorem dM_meet_92 : decode cM_meet 92 = .ok (.iload 5, 2) := by decide +kernel
theorem dM_meet_94 : decode cM_meet 94 = .ok (.iconst 2, 1) := by decide +kernel
theorem dM_meet_95 : decode cM_meet 95 = .ok (.if_icmp .ge 12, 3) := by decide +kernel
theorem dM_meet_98 : decode cM_meet 98 = .ok (.iload 4, 2) := by decide +kernel
theorem dM_meet_100 : decode cM_meet 100 = .ok (.iload 5, 2) := by decide +kernel
theorem dM_meet_102 : decode cM_meet 102 = .ok (.if_icmp .eq 5, 3) := by decide +kernel
theorem dM_meet_105 : decode cM_meet 105 = .ok (.iconst 0, 1) := by decide +kernel
theorem dM_meet_106 : decode cM_meet 106 = .ok (.ireturn, 1) := by decide +kernel
theorem dM_meet_107 : decode cM_meet 107 = .ok (.iinc 3 1, 3) := by decide +kernel
theorem dM_meet_110 : decode cM_meet 110 = .ok (.goto (-74), 3) := by decide +kernel
theorem dM_meet_113 : decode cM_meet 113 = .ok (.iconst 1, 1) := by decide +kernel
theorem dM_meet_114 : decode cM_meet 114 = .ok (.ireturn, 1) := by decide +kernel
theorem dM_count_0 : decode cM_count 0 = .ok (.aload_n 0, 1) := by decide +kernel
theorem dM_count_1 : decode cM_count 1 = .ok (.iconst 0, 1) := by decide +kernel
theorem dM_count_2 : decode cM_count 2 = .ok (.putfield 27, 3) := by decide +kernel
theorem dM_count_5 : decode cM_count 5 = .ok (.aload_n 0, 1) := by decide +kernel
theorem dM_count_6 : decode cM_count 6 = .ok (.iload_n 1, 1) := by decide +kernel
theorem dM_count_7 : decode cM_count 7 = .ok (.invokestatic 39, 3) := by decide +kernel
theorem dM_count_10 : decode cM_count 10 = .ok (.ifCond .eq 15, 3) := by decide +kernel
theorem dM_count_13 : decode cM_count 13 = .ok (.iload_n 2, 1) := by decide +kernel
theorem dM_count_14 : decode cM_count 14 = .ok (.i2l, 1) := by decide +kernel
theorem dM_count_15 : decode cM_count 15 = .ok (.lconst 0, 1) := by decide +kernel
theorem dM_count_16 : decode cM_count 16 = .ok (.ldc2_w 83, 3) := by decide +kernel
theorem dM_count_19 : decode cM_count 19 = .ok (.invokestatic 33, 3) := by decide +kernel
theorem dM_count_22 : decode cM_count 22 = .ok (.ifCond .ne 7, 3) := by decide +kernel
theorem dM_count_25 : decode cM_count 25 = .ok (.iconst 1, 1) := by decide +kernel
theorem dM_count_26 : decode cM_count 26 = .ok (.goto 4, 3) := by decide +kernel
theorem dM_count_29 : decode cM_count 29 = .ok (.iconst 0, 1) := by decide +kernel
theorem dM_count_30 : decode cM_count 30 = .ok (.iconst 1, 1) := by decide +kernel
theorem dM_count_31 : decode cM_count 31 = .ok (.invokevirtual 46, 3) := by decide +kernel
theorem dM_count_34 : decode cM_count 34 = .ok (.ifCond .eq 5, 3) := by decide +kernel
theorem dM_count_37 : decode cM_count 37 = .ok (.iconst 0, 1) := by decide +kernel
theorem dM_count_38 : decode cM_count 38 = .ok (.ireturn, 1) := by decide +kernel
theorem dM_count_39 : decode cM_count 39 = .ok (.iconst 0, 1) := by decide +kernel
theorem dM_count_40 : decode cM_count 40 = .ok (.istore_n 3, 1) := by decide +kernel
theorem dM_count_41 : decode cM_count 41 = .ok (.iload_n 2, 1) := by decide +kernel
theorem dM_count_42 : decode cM_count 42 = .ok (.tableswitch 100 0 2 #[26, 33, 69], 26) := by decide +kernel
theorem dM_count_68 : decode cM_count 68 = .ok (.aload_n 0, 1) := by decide +kernel
theorem dM_count_69 : decode cM_count 69 = .ok (.getfield 9, 3) := by decide +kernel
theorem dM_count_72 : decode cM_count 72 = .ok (.iload_n 1, 1) := by decide +kernel
theorem dM_count_73 : decode cM_count 73 = .ok (.iaload, 1) := by decide +kernel
theorem dM_count_74 : decode cM_count 74 = .ok (.ireturn, 1) := by decide +kernel
theorem dM_count_75 : decode cM_count 75 = .ok (.iconst 0, 1) := by decide +kernel
theorem dM_count_76 : decode cM_count 76 = .ok (.istore 4, 2) := by decide +kernel
theorem dM_count_78 : decode cM_count 78 = .ok (.iload 4, 2) := by decide +kernel
theorem dM_count_80 : decode cM_count 80 = .ok (.aload_n 0, 1) := by decide +kernel
theorem dM_count_81 : decode cM_count 81 = .ok (.getfield 9, 3) := by decide +kernel
theorem dM_count_84 : decode cM_count 84 = .ok (.iload_n 1, 1) := by decide +kernel
theorem dM_count_85 : decode cM_count 85 = .ok (.iaload, 1) := by decide +kernel
theorem dM_count_86 : decode cM_count 86 = .ok (.if_icmp .ge 23, 3) := by decide +kernel
theorem dM_count_89 : decode cM_count 89 = .ok (.aload_n 0, 1) := by decide +kernel
theorem dM_count_90 : decode cM_count 90 = .ok (.iload_n 1, 1) := by decide +kernel
theorem dM_count_91 : decode cM_count 91 = .ok (.iload 4, 2) := by decide +kernel
theorem dM_count_93 : decode cM_count 93 = .ok (.invokevirtual 76, 3) := by decide +kernel
theorem dM_count_96 : decode cM_count 96 = .ok (.iconst 2, 1) := by decide +kernel
theorem dM_count_97 : decode cM_count 97 = .ok (.if_icmp .ge 6, 3) := by decide +kernel
theorem dM_count_100 : decode cM_count 100 = .ok (.iinc 3 1, 3) := by decide +kernel
theorem dM_count_103 : decode cM_count 103 = .ok (.iinc 4 1, 3) := by decide +kernel
theorem dM_count_106 : decode cM_count 106 = .ok (.goto (-28), 3) := by decide +kernel
theorem dM_count_109 : decode cM_count 109 = .ok (.iload_n 3, 1) := by decide +kernel
theorem dM_count_110 : decode cM_count 110 = .ok (.ireturn, 1) := by decide +kernel
theorem dM_count_111 : decode cM_count 111 = .ok (.iconst 0, 1) := by decide +kernel
theorem dM_count_112 : decode cM_count 112 = .ok (.istore 4, 2) := by decide +kernel
theorem dM_count_114 : decode cM_count 114 = .ok (.iload 4, 2) := by decide +kernel
theorem dM_count_116 : decode cM_count 116 = .ok (.bipush 6, 2) := by decide +kernel
theorem dM_count_118 : decode cM_count 118 = .ok (.if_icmp .ge 22, 3) := by decide +kernel
theorem dM_count_121 : decode cM_count 121 = .ok (.aload_n 0, 1) := by decide +kernel
theorem dM_count_122 : decode cM_count 122 = .ok (.iload_n 1, 1) := by decide +kernel
theorem dM_count_123 : decode cM_count 123 = .ok (.iload 4, 2) := by decide +kernel
theorem dM_count_125 : decode cM_count 125 = .ok (.invokevirtual 52, 3) := by decide +kernel
theorem dM_count_128 : decode cM_count 128 = .ok (.ifCond .le 6, 3) := by decide +kernel
theorem dM_count_131 : decode cM_count 131 = .ok (.iinc 3 1, 3) := by decide +kernel
theorem dM_count_134 : decode cM_count 134 = .ok (.iinc 4 1, 3) := by decide +kernel
theorem dM_count_137 : decode cM_count 137 = .ok (.goto (-23), 3) := by decide +kernel
theorem dM_count_140 : decode cM_count 140 = .ok (.iload_n 3, 1) := by decide +kernel
theorem dM_count_141 : decode cM_count 141 = .ok (.ireturn, 1) := by decide +kernel
theorem dM_count_142 : decode cM_count 142 = .ok (.aload_n 0, 1) := by decide +kernel
theorem dM_count_143 : decode cM_count 143 = .ok (.iload_n 1, 1) := by decide +kernel
theorem dM_count_144 : decode cM_count 144 = .ok (.invokevirtual 68, 3) := by decide +kernel
theorem dM_count_147 : decode cM_count 147 = .ok (.ireturn, 1) := by decide +kernel
theorem dL_clear_0 : decode cL_clear 0 = .ok (.aload_n 0, 1) := by decide +kernel
theorem dL_clear_1 : decode cL_clear 1 = .ok (.iload_n 1, 1) := by decide +kernel
theorem dL_clear_2 : decode cL_clear 2 = .ok (.invokevirtual 7, 3) := by decide +kernel
theorem dL_clear_5 : decode cL_clear 5 = .ok (.goto 6, 3) := by decide +kernel
theorem dL_clear_8 : decode cL_clear 8 = .ok (.astore_n 2, 1) := by decide +kernel
theorem dL_clear_9 : decode cL_clear 9 = .ok (.iconst 1, 1) := by decide +kernel
theorem dL_clear_10 : decode cL_clear 10 = .ok (.ireturn, 1) := by decide +kernel
theorem dL_clear_11 : decode cL_clear 11 = .ok (.iconst 0, 1) := by decide +kernel
theorem dL_clear_12 : decode cL_clear 12 = .ok (.ireturn, 1) := by decide +kernel
theorem dL_operand_0 : decode cL_operand 0 = .ok (.aload_n 0, 1) := by decide +kernel
theorem dL_operand_1 : decode cL_operand 1 = .ok (.iload_n 1, 1) := by decide +kernel
theorem dL_operand_2 : decode cL_operand 2 = .ok (.iload_n 2, 1) := by decide +kernel
theorem dL_operand_3 : decode cL_operand 3 = .ok (.iload_n 3, 1) := by decide +kernel
theorem dL_operand_4 : decode cL_operand 4 = .ok (.iload 4, 2) := by decide +kernel
theorem dL_operand_6 : decode cL_operand 6 = .ok (.invokevirtual 15, 3) := by decide +kernel
theorem dL_operand_9 : decode cL_operand 9 = .ok (.goto 11, 3) := by decide +kernel
theorem dL_operand_12 : decode cL_operand 12 = .ok (.astore 5, 2) := by decide +kernel
theorem dL_operand_14 : decode cL_operand 14 = .ok (.iconst 1, 1) := by decide +kernel
theorem dL_operand_15 : decode cL_operand 15 = .ok (.ireturn, 1) := by decide +kernel
theorem dL_operand_16 : decode cL_operand 16 = .ok (.astore 5, 2) := by decide +kernel
theorem dL_operand_18 : decode cL_operand 18 = .ok (.iconst 2, 1) := by decide +kernel
theorem dL_operand_19 : decode cL_operand 19 = .ok (.ireturn, 1) := by decide +kernel
theorem dL_operand_20 : decode cL_operand 20 = .ok (.iconst 0, 1) := by decide +kernel
theorem dL_operand_21 : decode cL_operand 21 = .ok (.ireturn, 1) := by decide +kernel
theorem dL_fixed_0 : decode cL_fixed 0 = .ok (.aload 5, 2) := by decide +kernel
theorem dL_fixed_2 : decode cL_fixed 2 = .ok (.iconst 0, 1) := by decide +kernel
theorem dL_fixed_3 : decode cL_fixed 3 = .ok (.aload_n 0, 1) := by decide +kernel
theorem dL_fixed_4 : decode cL_fixed 4 = .ok (.iload_n 1, 1) := by decide +kernel
theorem dL_fixed_5 : decode cL_fixed 5 = .ok (.iload_n 2, 1) := by decide +kernel
theorem dL_fixed_6 : decode cL_fixed 6 = .ok (.lload_n 3, 1) := by decide +kernel
theorem dL_fixed_7 : decode cL_fixed 7 = .ok (.invokevirtual 21, 3) := by decide +kernel
theorem dL_fixed_10 : decode cL_fixed 10 = .ok (.i2l, 1) := by decide +kernel
theorem dL_fixed_11 : decode cL_fixed 11 = .ok (.lastore, 1) := by decide +kernel
theorem dL_fixed_12 : decode cL_fixed 12 = .ok (.goto 11, 3) := by decide +kernel
theorem dL_fixed_15 : decode cL_fixed 15 = .ok (.astore 6, 2) := by decide +kernel
theorem dL_fixed_17 : decode cL_fixed 17 = .ok (.iconst 1, 1) := by decide +kernel
theorem dL_fixed_18 : decode cL_fixed 18 = .ok (.ireturn, 1) := by decide +kernel
theorem dL_fixed_19 : decode cL_fixed 19 = .ok (.astore 6, 2) := by decide +kernel
theorem dL_fixed_21 : decode cL_fixed 21 = .ok (.iconst 2, 1) := by decide +kernel
theorem dL_fixed_22 : decode cL_fixed 22 = .ok (.ireturn, 1) := by decide +kernel
theorem dL_fixed_23 : decode cL_fixed 23 = .ok (.iconst 0, 1) := by decide +kernel
theorem dL_fixed_24 : decode cL_fixed 24 = .ok (.ireturn, 1) := by decide +kernel
theorem dL_slice_0 : decode cL_slice 0 = .ok (.aload 5, 2) := by decide +kernel
theorem dL_slice_2 : decode cL_slice 2 = .ok (.iconst 0, 1) := by decide +kernel
theorem dL_slice_3 : decode cL_slice 3 = .ok (.aload_n 0, 1) := by decide +kernel
theorem dL_slice_4 : decode cL_slice 4 = .ok (.iload_n 1, 1) := by decide +kernel
theorem dL_slice_5 : decode cL_slice 5 = .ok (.iload_n 2, 1) := by decide +kernel
theorem dL_slice_6 : decode cL_slice 6 = .ok (.iload_n 3, 1) := by decide +kernel
theorem dL_slice_7 : decode cL_slice 7 = .ok (.iload 4, 2) := by decide +kernel
theorem dL_slice_9 : decode cL_slice 9 = .ok (.invokevirtual 27, 3) := by decide +kernel
theorem dL_slice_12 : decode cL_slice 12 = .ok (.i2l, 1) := by decide +kernel
theorem dL_slice_13 : decode cL_slice 13 = .ok (.lastore, 1) := by decide +kernel
theorem dL_slice_14 : decode cL_slice 14 = .ok (.goto 15, 3) := by decide +kernel
theorem dL_slice_17 : decode cL_slice 17 = .ok (.astore 6, 2) := by decide +kernel
theorem dL_slice_19 : decode cL_slice 19 = .ok (.iconst 1, 1) := by decide +kernel
theorem dL_slice_20 : decode cL_slice 20 = .ok (.ireturn, 1) := by decide +kernel
theorem dL_slice_21 : decode cL_slice 21 = .ok (.astore 6, 2) := by decide +kernel
theorem dL_slice_23 : decode cL_slice 23 = .ok (.iconst 2, 1) := by decide +kernel
theorem dL_slice_24 : decode cL_slice 24 = .ok (.ireturn, 1) := by decide +kernel
theorem dL_slice_25 : decode cL_slice 25 = .ok (.astore 6, 2) := by decide +kernel
theorem dL_slice_27 : decode cL_slice 27 = .ok (.iconst 3, 1) := by decide +kernel
theorem dL_slice_28 : decode cL_slice 28 = .ok (.ireturn, 1) := by decide +kernel
theorem dL_slice_29 : decode cL_slice 29 = .ok (.iconst 0, 1) := by decide +kernel
theorem dL_slice_30 : decode cL_slice 30 = .ok (.ireturn, 1) := by decide +kernel
theorem dL_whole_0 : decode cL_whole 0 = .ok (.aload_n 2, 1) := by decide +kernel
theorem dL_whole_1 : decode cL_whole 1 = .ok (.iconst 0, 1) := by decide +kernel
theorem dL_whole_2 : decode cL_whole 2 = .ok (.aload_n 0, 1) := by decide +kernel
theorem dL_whole_3 : decode cL_whole 3 = .ok (.iload_n 1, 1) := by decide +kernel
theorem dL_whole_4 : decode cL_whole 4 = .ok (.invokevirtual 31, 3) := by decide +kernel
theorem dL_whole_7 : decode cL_whole 7 = .ok (.ifCond .eq 7, 3) := by decide +kernel
theorem dL_whole_10 : decode cL_whole 10 = .ok (.lconst 1, 1) := by decide +kernel
theorem dL_whole_11 : decode cL_whole 11 = .ok (.goto 4, 3) := by decide +kernel
theorem dL_whole_14 : decode cL_whole 14 = .ok (.lconst 0, 1) := by decide +kernel
theorem dL_whole_15 : decode cL_whole 15 = .ok (.lastore, 1) := by decide +kernel
theorem dL_whole_16 : decode cL_whole 16 = .ok (.goto 6, 3) := by decide +kernel
theorem dL_whole_19 : decode cL_whole 19 = .ok (.astore_n 3, 1) := by decide +kernel
theorem dL_whole_20 : decode cL_whole 20 = .ok (.iconst 1, 1) := by decide +kernel
theorem dL_whole_21 : decode cL_whole 21 = .ok (.ireturn, 1) := by decide +kernel
theorem dL_whole_22 : decode cL_whole 22 = .ok (.iconst 0, 1) := by decide +kernel
theorem dL_whole_23 : decode cL_whole 23 = .ok (.ireturn, 1) := by decide +kernel
theorem dL_number_0 : decode cL_number 0 = .ok (.aload_n 0, 1) := by decide +kernel
theorem dL_number_1 : decode cL_number 1 = .ok (.iload_n 1, 1) := by decide +kernel
theorem dL_number_2 : decode cL_number 2 = .ok (.lload_n 2, 1) := by decide +kernel
theorem dL_number_3 : decode cL_number 3 = .ok (.invokevirtual 35, 3) := by decide +kernel
theorem dL_number_6 : decode cL_number 6 = .ok (.goto 7, 3) := by decide +kernel
theorem dL_number_9 : decode cL_number 9 = .ok (.astore 4, 2) := by decide +kernel
theorem dL_number_11 : decode cL_number 11 = .ok (.iconst 1, 1) := by decide +kernel
theorem dL_number_12 : decode cL_number 12 = .ok (.ireturn, 1) := by decide +kernel
theorem dL_number_13 : decode cL_number 13 = .ok (.iconst 0, 1) := by decide +kernel
theorem dL_number_14 : decode cL_number 14 = .ok (.ireturn, 1) := by decide +kernel
theorem dL_fits_0 : decode cL_fits 0 = .ok (.aload 5, 2) := by decide +kernel
theorem dL_fits_2 : decode cL_fits 2 = .ok (.iconst 0, 1) := by decide +kernel
theorem dL_fits_3 : decode cL_fits 3 = .ok (.aload_n 0, 1) := by decide +kernel
theorem dL_fits_4 : decode cL_fits 4 = .ok (.iload_n 1, 1) := by decide +kernel
theorem dL_fits_5 : decode cL_fits 5 = .ok (.iload_n 2, 1) := by decide +kernel
theorem dL_fits_6 : decode cL_fits 6 = .ok (.lload_n 3, 1) := by decide +kernel
theorem dL_fits_7 : decode cL_fits 7 = .ok (.invokevirtual 39, 3) := by decide +kernel
theorem dL_fits_10 : decode cL_fits 10 = .ok (.ifCond .eq 7, 3) := by decide +kernel
theorem dL_fits_13 : decode cL_fits 13 = .ok (.lconst 1, 1) := by decide +kernel
theorem dL_fits_14 : decode cL_fits 14 = .ok (.goto 4, 3) := by decide +kernel
theorem dL_fits_17 : decode cL_fits 17 = .ok (.lconst 0, 1) := by decide +kernel
theorem dL_fits_18 : decode cL_fits 18 = .ok (.lastore, 1) := by decide +kernel
theorem dL_fits_19 : decode cL_fits 19 = .ok (.goto 7, 3) := by decide +kernel
theorem dL_fits_22 : decode cL_fits 22 = .ok (.astore 6, 2) := by decide +kernel
theorem dL_fits_24 : decode cL_fits 24 = .ok (.iconst 1, 1) := by decide +kernel
theorem dL_fits_25 : decode cL_fits 25 = .ok (.ireturn, 1) := by decide +kernel
theorem dL_fits_26 : decode cL_fits 26 = .ok (.iconst 0, 1) := by decide +kernel
theorem dL_fits_27 : decode cL_fits 27 = .ok (.ireturn, 1) := by decide +kernel
theorem dL_encode_0 : decode cL_encode 0 = .ok (.aload_n 2, 1) := by decide +kernel
theorem dL_encode_1 : decode cL_encode 1 = .ok (.iconst 0, 1) := by decide +kernel
theorem dL_encode_2 : decode cL_encode 2 = .ok (.aload_n 0, 1) := by decide +kernel
theorem dL_encode_3 : decode cL_encode 3 = .ok (.iload_n 1, 1) := by decide +kernel
theorem dL_encode_4 : decode cL_encode 4 = .ok (.invokevirtual 43, 3) := by decide +kernel
theorem dL_encode_7 : decode cL_encode 7 = .ok (.lastore, 1) := by decide +kernel
theorem dL_encode_8 : decode cL_encode 8 = .ok (.goto 12, 3) := by decide +kernel
theorem dL_encode_11 : decode cL_encode 11 = .ok (.astore_n 3, 1) := by decide +kernel
theorem dL_encode_12 : decode cL_encode 12 = .ok (.iconst 1, 1) := by decide +kernel
theorem dL_encode_13 : decode cL_encode 13 = .ok (.ireturn, 1) := by decide +kernel
theorem dL_encode_14 : decode cL_encode 14 = .ok (.astore_n 3, 1) := by decide +kernel
theorem dL_encode_15 : decode cL_encode 15 = .ok (.iconst 2, 1) := by decide +kernel
theorem dL_encode_16 : decode cL_encode 16 = .ok (.ireturn, 1) := by decide +kernel
theorem dL_encode_17 : decode cL_encode 17 = .ok (.astore_n 3, 1) := by decide +kernel
theorem dL_encode_18 : decode cL_encode 18 = .ok (.iconst 3, 1) := by decide +kernel
theorem dL_encode_19 : decode cL_encode 19 = .ok (.ireturn, 1) := by decide +kernel
theorem dL_encode_20 : decode cL_encode 20 = .ok (.iconst 0, 1) := by decide +kernel
theorem dL_encode_21 : decode cL_encode 21 = .ok (.ireturn, 1) := by decide +kernel
theorem dL_is_0 : decode cL_is 0 = .ok (.aload 4, 2) := by decide +kernel
theorem dL_is_2 : decode cL_is 2 = .ok (.iconst 0, 1) := by decide +kernel
theorem dL_is_3 : decode cL_is 3 = .ok (.aload_n 0, 1) := by decide +kernel
theorem dL_is_4 : decode cL_is 4 = .ok (.iload_n 1, 1) := by decide +kernel
theorem dL_is_5 : decode cL_is 5 = .ok (.lload_n 2, 1) := by decide +kernel
theorem dL_is_6 : decode cL_is 6 = .ok (.invokevirtual 49, 3) := by decide +kernel
theorem dL_is_9 : decode cL_is 9 = .ok (.ifCond .eq 7, 3) := by decide +kernel
theorem dL_is_12 : decode cL_is 12 = .ok (.lconst 1, 1) := by decide +kernel
theorem dL_is_13 : decode cL_is 13 = .ok (.goto 4, 3) := by decide +kernel
theorem dL_is_16 : decode cL_is 16 = .ok (.lconst 0, 1) := by decide +kernel
theorem dL_is_17 : decode cL_is 17 = .ok (.lastore, 1) := by decide +kernel
theorem dL_is_18 : decode cL_is 18 = .ok (.goto 7, 3) := by decide +kernel
theorem dL_is_21 : decode cL_is 21 = .ok (.astore 5, 2) := by decide +kernel
theorem dL_is_23 : decode cL_is 23 = .ok (.iconst 1, 1) := by decide +kernel
theorem dL_is_24 : decode cL_is 24 = .ok (.ireturn, 1) := by decide +kernel
theorem dL_is_25 : decode cL_is 25 = .ok (.iconst 0, 1) := by decide +kernel
theorem dL_is_26 : decode cL_is 26 = .ok (.ireturn, 1) := by decide +kernel
theorem dL_decode_0 : decode cL_decode 0 = .ok (.aload 5, 2) := by decide +kernel
theorem dL_decode_2 : decode cL_decode 2 = .ok (.iconst 0, 1) := by decide +kernel
theorem dL_decode_3 : decode cL_decode 3 = .ok (.aload_n 0, 1) := by decide +kernel
theorem dL_decode_4 : decode cL_decode 4 = .ok (.iload_n 1, 1) := by decide +kernel
theorem dL_decode_5 : decode cL_decode 5 = .ok (.iload_n 2, 1) := by decide +kernel
theorem dL_decode_6 : decode cL_decode 6 = .ok (.lload_n 3, 1) := by decide +kernel
theorem dL_decode_7 : decode cL_decode 7 = .ok (.invokevirtual 53, 3) := by decide +kernel
theorem dL_decode_10 : decode cL_decode 10 = .ok (.lastore, 1) := by decide +kernel
theorem dL_decode_11 : decode cL_decode 11 = .ok (.goto 15, 3) := by decide +kernel
theorem dL_decode_14 : decode cL_decode 14 = .ok (.astore 6, 2) := by decide +kernel
theorem dL_decode_16 : decode cL_decode 16 = .ok (.iconst 1, 1) := by decide +kernel
theorem dL_decode_17 : decode cL_decode 17 = .ok (.ireturn, 1) := by decide +kernel
theorem dL_decode_18 : decode cL_decode 18 = .ok (.astore 6, 2) := by decide +kernel
theorem dL_decode_20 : decode cL_decode 20 = .ok (.iconst 2, 1) := by decide +kernel
theorem dL_decode_21 : decode cL_decode 21 = .ok (.ireturn, 1) := by decide +kernel
theorem dL_decode_22 : decode cL_decode 22 = .ok (.astore 6, 2) := by decide +kernel
theorem dL_decode_24 : decode cL_decode 24 = .ok (.iconst 3, 1) := by decide +kernel
theorem dL_decode_25 : decode cL_decode 25 = .ok (.ireturn, 1) := by decide +kernel
theorem dL_decode_26 : decode cL_decode 26 = .ok (.iconst 0, 1) := by decide +kernel
theorem dL_decode_27 : decode cL_decode 27 = .ok (.ireturn, 1) := by decide +kernel
theorem dL_meet_0 : decode cL_meet 0 = .ok (.aload_n 3, 1) := by decide +kernel
theorem dL_meet_1 : decode cL_meet 1 = .ok (.iconst 0, 1) := by decide +kernel
theorem dL_meet_2 : decode cL_meet 2 = .ok (.aload_n 0, 1) := by decide +kernel
theorem dL_meet_3 : decode cL_meet 3 = .ok (.iload_n 1, 1) := by decide +kernel
theorem dL_meet_4 : decode cL_meet 4 = .ok (.iload_n 2, 1) := by decide +kernel
theorem dL_meet_5 : decode cL_meet 5 = .ok (.invokevirtual 57, 3) := by decide +kernel
theorem dL_meet_8 : decode cL_meet 8 = .ok (.ifCond .eq 7, 3) := by decide +kernel
theorem dL_meet_11 : decode cL_meet 11 = .ok (.lconst 1, 1) := by decide +kernel
theorem dL_meet_12 : decode cL_meet 12 = .ok (.goto 4, 3) := by decide +kernel
theorem dL_meet_15 : decode cL_meet 15 = .ok (.lconst 0, 1) := by decide +kernel
theorem dL_meet_16 : decode cL_meet 16 = .ok (.lastore, 1) := by decide +kernel
theorem dL_meet_17 : decode cL_meet 17 = .ok (.goto 7, 3) := by decide +kernel
theorem dL_meet_20 : decode cL_meet 20 = .ok (.astore 4, 2) := by decide +kernel
theorem dL_meet_22 : decode cL_meet 22 = .ok (.iconst 1, 1) := by decide +kernel
theorem dL_meet_23 : decode cL_meet 23 = .ok (.ireturn, 1) := by decide +kernel
theorem dL_meet_24 : decode cL_meet 24 = .ok (.iconst 0, 1) := by decide +kernel
theorem dL_meet_25 : decode cL_meet 25 = .ok (.ireturn, 1) := by decide +kernel
theorem dL_count_0 : decode cL_count 0 = .ok (.aload_n 3, 1) := by decide +kernel
theorem dL_count_1 : decode cL_count 1 = .ok (.iconst 0, 1) := by decide +kernel
theorem dL_count_2 : decode cL_count 2 = .ok (.aload_n 0, 1) := by decide +kernel
theorem dL_count_3 : decode cL_count 3 = .ok (.iload_n 1, 1) := by decide +kernel
theorem dL_count_4 : decode cL_count 4 = .ok (.iload_n 2, 1) := by decide +kernel
theorem dL_count_5 : decode cL_count 5 = .ok (.invokevirtual 61, 3) := by decide +kernel
theorem dL_count_8 : decode cL_count 8 = .ok (.i2l, 1) := by decide +kernel
theorem dL_count_9 : decode cL_count 9 = .ok (.lastore, 1) := by decide +kernel
theorem dL_count_10 : decode cL_count 10 = .ok (.goto 7, 3) := by decide +kernel
theorem dL_count_13 : decode cL_count 13 = .ok (.astore 4, 2) := by decide +kernel
theorem dL_count_15 : decode cL_count 15 = .ok (.iconst 1, 1) := by decide +kernel
theorem dL_count_16 : decode cL_count 16 = .ok (.ireturn, 1) := by decide +kernel
theorem dL_count_17 : decode cL_count 17 = .ok (.iconst 0, 1) := by decide +kernel
theorem dL_count_18 : decode cL_count 18 = .ok (.ireturn, 1) := by decide +kernel
