theorem dX6_copy_143 : decode cX6_copy 143 = .ok (.invokestatic 77, 3) := by decide +kernel
theorem dX6_copy_146 : decode cX6_copy 146 = .ok (.aload_n 0, 1) := by decide +kernel
theorem dX6_copy_147 : decode cX6_copy 147 = .ok (.aload_n 1, 1) := by decide +kernel
theorem dX6_copy_148 : decode cX6_copy 148 = .ok (.getfield 49, 3) := by decide +kernel
theorem dX6_copy_151 : decode cX6_copy 151 = .ok (.putfield 49, 3) := by decide +kernel
theorem dX6_copy_154 : decode cX6_copy 154 = .ok (.aload_n 1, 1) := by decide +kernel
theorem dX6_copy_155 : decode cX6_copy 155 = .ok (.getfield 52, 3) := by decide +kernel
theorem dX6_copy_158 : decode cX6_copy 158 = .ok (.iconst 0, 1) := by decide +kernel
theorem dX6_copy_159 : decode cX6_copy 159 = .ok (.aload_n 0, 1) := by decide +kernel
theorem dX6_copy_160 : decode cX6_copy 160 = .ok (.getfield 52, 3) := by decide +kernel
theorem dX6_copy_163 : decode cX6_copy 163 = .ok (.iconst 0, 1) := by decide +kernel
theorem dX6_copy_164 : decode cX6_copy 164 = .ok (.bipush 8, 2) := by decide +kernel
theorem dX6_copy_166 : decode cX6_copy 166 = .ok (.invokestatic 77, 3) := by decide +kernel
theorem dX6_copy_169 : decode cX6_copy 169 = .ok (.aload_n 1, 1) := by decide +kernel
theorem dX6_copy_170 : decode cX6_copy 170 = .ok (.getfield 55, 3) := by decide +kernel
theorem dX6_copy_173 : decode cX6_copy 173 = .ok (.iconst 0, 1) := by decide +kernel
theorem dX6_copy_174 : decode cX6_copy 174 = .ok (.aload_n 0, 1) := by decide +kernel
theorem dX6_copy_175 : decode cX6_copy 175 = .ok (.getfield 55, 3) := by decide +kernel
theorem dX6_copy_178 : decode cX6_copy 178 = .ok (.iconst 0, 1) := by decide +kernel
theorem dX6_copy_179 : decode cX6_copy 179 = .ok (.bipush 8, 2) := by decide +kernel
theorem dX6_copy_181 : decode cX6_copy 181 = .ok (.invokestatic 77, 3) := by decide +kernel
theorem dX6_copy_184 : decode cX6_copy 184 = .ok (.return_, 1) := by decide +kernel
theorem dX7_init_0 : decode cX7_init 0 = .ok (.aload_n 0, 1) := by decide +kernel
theorem dX7_init_1 : decode cX7_init 1 = .ok (.invokespecial 3, 3) := by decide +kernel
theorem dX7_init_4 : decode cX7_init 4 = .ok (.aload_n 0, 1) := by decide +kernel
theorem dX7_init_5 : decode cX7_init 5 = .ok (.sipush 400, 3) := by decide +kernel
theorem dX7_init_8 : decode cX7_init 8 = .ok (.newarray .int, 2) := by decide +kernel
theorem dX7_init_10 : decode cX7_init 10 = .ok (.putfield 11, 3) := by decide +kernel
theorem dX7_init_13 : decode cX7_init 13 = .ok (.aload_n 0, 1) := by decide +kernel
theorem dX7_init_14 : decode cX7_init 14 = .ok (.iconst 0, 1) := by decide +kernel
theorem dX7_init_15 : decode cX7_init 15 = .ok (.putfield 15, 3) := by decide +kernel
theorem dX7_init_18 : decode cX7_init 18 = .ok (.aload_n 0, 1) := by decide +kernel
theorem dX7_init_19 : decode cX7_init 19 = .ok (.iconst 0, 1) := by decide +kernel
theorem dX7_init_20 : decode cX7_init 20 = .ok (.putfield 19, 3) := by decide +kernel
theorem dX7_init_23 : decode cX7_init 23 = .ok (.aload_n 0, 1) := by decide +kernel
theorem dX7_init_24 : decode cX7_init 24 = .ok (.iconst 0, 1) := by decide +kernel
theorem dX7_init_25 : decode cX7_init 25 = .ok (.putfield 22, 3) := by decide +kernel
theorem dX7_init_28 : decode cX7_init 28 = .ok (.return_, 1) := by decide +kernel
theorem dX7_add_0 : decode cX7_add 0 = .ok (.aload_n 0, 1) := by decide +kernel
theorem dX7_add_1 : decode cX7_add 1 = .ok (.getfield 15, 3) := by decide +kernel
theorem dX7_add_4 : decode cX7_add 4 = .ok (.bipush 20, 2) := by decide +kernel
theorem dX7_add_6 : decode cX7_add 6 = .ok (.iadd, 1) := by decide +kernel
theorem dX7_add_7 : decode cX7_add 7 = .ok (.sipush 400, 3) := by decide +kernel
theorem dX7_add_10 : decode cX7_add 10 = .ok (.if_icmp .le 5, 3) := by decide +kernel
theorem dX7_add_13 : decode cX7_add 13 = .ok (.iconst (-1), 1) := by decide +kernel
theorem dX7_add_14 : decode cX7_add 14 = .ok (.ireturn, 1) := by decide +kernel
theorem dX7_add_15 : decode cX7_add 15 = .ok (.aload_n 0, 1) := by decide +kernel
theorem dX7_add_16 : decode cX7_add 16 = .ok (.iload_n 1, 1) := by decide +kernel
theorem dX7_add_17 : decode cX7_add 17 = .ok (.invokevirtual 25, 3) := by decide +kernel
theorem dX7_add_20 : decode cX7_add 20 = .ok (.aload_n 0, 1) := by decide +kernel
theorem dX7_add_21 : decode cX7_add 21 = .ok (.iload_n 2, 1) := by decide +kernel
theorem dX7_add_22 : decode cX7_add 22 = .ok (.invokevirtual 25, 3) := by decide +kernel
theorem dX7_add_25 : decode cX7_add 25 = .ok (.aload_n 0, 1) := by decide +kernel
theorem dX7_add_26 : decode cX7_add 26 = .ok (.iload_n 3, 1) := by decide +kernel
theorem dX7_add_27 : decode cX7_add 27 = .ok (.invokevirtual 25, 3) := by decide +kernel
theorem dX7_add_30 : decode cX7_add 30 = .ok (.aload_n 0, 1) := by decide +kernel
theorem dX7_add_31 : decode cX7_add 31 = .ok (.iload 4, 2) := by decide +kernel
theorem dX7_add_33 : decode cX7_add 33 = .ok (.invokevirtual 25, 3) := by decide +kernel
theorem dX7_add_36 : decode cX7_add 36 = .ok (.aload_n 0, 1) := by decide +kernel
theorem dX7_add_37 : decode cX7_add 37 = .ok (.iload 5, 2) := by decide +kernel
theorem dX7_add_39 : decode cX7_add 39 = .ok (.invokevirtual 25, 3) := by decide +kernel
theorem dX7_add_42 : decode cX7_add 42 = .ok (.aload_n 0, 1) := by decide +kernel
theorem dX7_add_43 : decode cX7_add 43 = .ok (.getfield 15, 3) := by decide +kernel
theorem dX7_add_46 : decode cX7_add 46 = .ok (.ireturn, 1) := by decide +kernel
theorem dX7_addBytes_0 : decode cX7_addBytes 0 = .ok (.bipush 24, 2) := by decide +kernel
theorem dX7_addBytes_2 : decode cX7_addBytes 2 = .ok (.istore_n 2, 1) := by decide +kernel
theorem dX7_addBytes_3 : decode cX7_addBytes 3 = .ok (.iload_n 2, 1) := by decide +kernel
theorem dX7_addBytes_4 : decode cX7_addBytes 4 = .ok (.ifCond .lt 45, 3) := by decide +kernel
theorem dX7_addBytes_7 : decode cX7_addBytes 7 = .ok (.aload_n 0, 1) := by decide +kernel
theorem dX7_addBytes_8 : decode cX7_addBytes 8 = .ok (.getfield 15, 3) := by decide +kernel
theorem dX7_addBytes_11 : decode cX7_addBytes 11 = .ok (.sipush 400, 3) := by decide +kernel
theorem dX7_addBytes_14 : decode cX7_addBytes 14 = .ok (.if_icmp .ge 29, 3) := by decide +kernel
theorem dX7_addBytes_17 : decode cX7_addBytes 17 = .ok (.aload_n 0, 1) := by decide +kernel
theorem dX7_addBytes_18 : decode cX7_addBytes 18 = .ok (.getfield 11, 3) := by decide +kernel
theorem dX7_addBytes_21 : decode cX7_addBytes 21 = .ok (.aload_n 0, 1) := by decide +kernel
theorem dX7_addBytes_22 : decode cX7_addBytes 22 = .ok (.getfield 15, 3) := by decide +kernel
theorem dX7_addBytes_25 : decode cX7_addBytes 25 = .ok (.iload_n 1, 1) := by decide +kernel
theorem dX7_addBytes_26 : decode cX7_addBytes 26 = .ok (.iload_n 2, 1) := by decide +kernel
theorem dX7_addBytes_27 : decode cX7_addBytes 27 = .ok (.iushr, 1) := by decide +kernel
theorem dX7_addBytes_28 : decode cX7_addBytes 28 = .ok (.sipush 255, 3) := by decide +kernel
theorem dX7_addBytes_31 : decode cX7_addBytes 31 = .ok (.iand, 1) := by decide +kernel
theorem dX7_addBytes_32 : decode cX7_addBytes 32 = .ok (.iastore, 1) := by decide +kernel
theorem dX7_addBytes_33 : decode cX7_addBytes 33 = .ok (.aload_n 0, 1) := by decide +kernel
theorem dX7_addBytes_34 : decode cX7_addBytes 34 = .ok (.dup, 1) := by decide +kernel
theorem dX7_addBytes_35 : decode cX7_addBytes 35 = .ok (.getfield 15, 3) := by decide +kernel
theorem dX7_addBytes_38 : decode cX7_addBytes 38 = .ok (.iconst 1, 1) := by decide +kernel
theorem dX7_addBytes_39 : decode cX7_addBytes 39 = .ok (.iadd, 1) := by decide +kernel
theorem dX7_addBytes_40 : decode cX7_addBytes 40 = .ok (.putfield 15, 3) := by decide +kernel
theorem dX7_addBytes_43 : decode cX7_addBytes 43 = .ok (.iinc 2 (-8), 3) := by decide +kernel
theorem dX7_addBytes_46 : decode cX7_addBytes 46 = .ok (.goto (-43), 3) := by decide +kernel
theorem dX7_addBytes_49 : decode cX7_addBytes 49 = .ok (.return_, 1) := by decide +kernel
theorem dX7_cut_0 : decode cX7_cut 0 = .ok (.iload_n 1, 1) := by decide +kernel
theorem dX7_cut_1 : decode cX7_cut 1 = .ok (.ifCond .lt 11, 3) := by decide +kernel
theorem dX7_cut_4 : decode cX7_cut 4 = .ok (.iload_n 1, 1) := by decide +kernel
theorem dX7_cut_5 : decode cX7_cut 5 = .ok (.aload_n 0, 1) := by decide +kernel
theorem dX7_cut_6 : decode cX7_cut 6 = .ok (.getfield 15, 3) := by decide +kernel
theorem dX7_cut_9 : decode cX7_cut 9 = .ok (.if_icmp .le 5, 3) := by decide +kernel
theorem dX7_cut_12 : decode cX7_cut 12 = .ok (.iconst (-1), 1) := by decide +kernel
theorem dX7_cut_13 : decode cX7_cut 13 = .ok (.ireturn, 1) := by decide +kernel
theorem dX7_cut_14 : decode cX7_cut 14 = .ok (.aload_n 0, 1) := by decide +kernel
theorem dX7_cut_15 : decode cX7_cut 15 = .ok (.iload_n 1, 1) := by decide +kernel
theorem dX7_cut_16 : decode cX7_cut 16 = .ok (.putfield 15, 3) := by decide +kernel
theorem dX7_cut_19 : decode cX7_cut 19 = .ok (.iload_n 1, 1) := by decide +kernel
theorem dX7_cut_20 : decode cX7_cut 20 = .ok (.ireturn, 1) := by decide +kernel
theorem dX7_empty_0 : decode cX7_empty 0 = .ok (.aload_n 0, 1) := by decide +kernel
theorem dX7_empty_1 : decode cX7_empty 1 = .ok (.iconst 0, 1) := by decide +kernel
theorem dX7_empty_2 : decode cX7_empty 2 = .ok (.putfield 15, 3) := by decide +kernel
theorem dX7_empty_5 : decode cX7_empty 5 = .ok (.return_, 1) := by decide +kernel
theorem dX7_start_0 : decode cX7_start 0 = .ok (.aload_n 0, 1) := by decide +kernel
theorem dX7_start_1 : decode cX7_start 1 = .ok (.iconst 0, 1) := by decide +kernel
theorem dX7_start_2 : decode cX7_start 2 = .ok (.putfield 19, 3) := by decide +kernel
theorem dX7_start_5 : decode cX7_start 5 = .ok (.aload_n 0, 1) := by decide +kernel
theorem dX7_start_6 : decode cX7_start 6 = .ok (.iconst 0, 1) := by decide +kernel
theorem dX7_start_7 : decode cX7_start 7 = .ok (.putfield 22, 3) := by decide +kernel
theorem dX7_start_10 : decode cX7_start 10 = .ok (.return_, 1) := by decide +kernel
theorem dX7_failed_0 : decode cX7_failed 0 = .ok (.aload_n 0, 1) := by decide +kernel
theorem dX7_failed_1 : decode cX7_failed 1 = .ok (.getfield 22, 3) := by decide +kernel
theorem dX7_failed_4 : decode cX7_failed 4 = .ok (.ifCond .eq 7, 3) := by decide +kernel
theorem dX7_failed_7 : decode cX7_failed 7 = .ok (.iconst 1, 1) := by decide +kernel
theorem dX7_failed_8 : decode cX7_failed 8 = .ok (.goto 4, 3) := by decide +kernel
theorem dX7_failed_11 : decode cX7_failed 11 = .ok (.iconst 0, 1) := by decide +kernel
theorem dX7_failed_12 : decode cX7_failed 12 = .ok (.ireturn, 1) := by decide +kernel
theorem dX7_fail_0 : decode cX7_fail 0 = .ok (.aload_n 0, 1) := by decide +kernel
theorem dX7_fail_1 : decode cX7_fail 1 = .ok (.getfield 22, 3) := by decide +kernel
theorem dX7_fail_4 : decode cX7_fail 4 = .ok (.ifCond .ne 15, 3) := by decide +kernel
theorem dX7_fail_7 : decode cX7_fail 7 = .ok (.aload_n 0, 1) := by decide +kernel
theorem dX7_fail_8 : decode cX7_fail 8 = .ok (.iconst 1, 1) := by decide +kernel
theorem dX7_fail_9 : decode cX7_fail 9 = .ok (.bipush 8, 2) := by decide +kernel
theorem dX7_fail_11 : decode cX7_fail 11 = .ok (.iload_n 2, 1) := by decide +kernel
theorem dX7_fail_12 : decode cX7_fail 12 = .ok (.imul, 1) := by decide +kernel
theorem dX7_fail_13 : decode cX7_fail 13 = .ok (.iadd, 1) := by decide +kernel
theorem dX7_fail_14 : decode cX7_fail 14 = .ok (.iload_n 1, 1) := by decide +kernel
theorem dX7_fail_15 : decode cX7_fail 15 = .ok (.iadd, 1) := by decide +kernel
theorem dX7_fail_16 : decode cX7_fail 16 = .ok (.putfield 22, 3) := by decide +kernel
theorem dX7_fail_19 : decode cX7_fail 19 = .ok (.return_, 1) := by decide +kernel
theorem dX7_next_0 : decode cX7_next 0 = .ok (.aload_n 0, 1) := by decide +kernel
theorem dX7_next_1 : decode cX7_next 1 = .ok (.getfield 19, 3) := by decide +kernel
theorem dX7_next_4 : decode cX7_next 4 = .ok (.aload_n 0, 1) := by decide +kernel
theorem dX7_next_5 : decode cX7_next 5 = .ok (.getfield 15, 3) := by decide +kernel
theorem dX7_next_8 : decode cX7_next 8 = .ok (.if_icmp .ge 30, 3) := by decide +kernel
theorem dX7_next_11 : decode cX7_next 11 = .ok (.aload_n 0, 1) := by decide +kernel
theorem dX7_next_12 : decode cX7_next 12 = .ok (.getfield 11, 3) := by decide +kernel
theorem dX7_next_15 : decode cX7_next 15 = .ok (.aload_n 0, 1) := by decide +kernel
theorem dX7_next_16 : decode cX7_next 16 = .ok (.getfield 19, 3) := by decide +kernel
theorem dX7_next_19 : decode cX7_next 19 = .ok (.iaload, 1) := by decide +kernel
theorem dX7_next_20 : decode cX7_next 20 = .ok (.bipush 32, 2) := by decide +kernel
theorem dX7_next_22 : decode cX7_next 22 = .ok (.if_icmp .ne 16, 3) := by decide +kernel
theorem dX7_next_25 : decode cX7_next 25 = .ok (.aload_n 0, 1) := by decide +kernel
theorem dX7_next_26 : decode cX7_next 26 = .ok (.dup, 1) := by decide +kernel
theorem dX7_next_27 : decode cX7_next 27 = .ok (.getfield 19, 3) := by decide +kernel
theorem dX7_next_30 : decode cX7_next 30 = .ok (.iconst 1, 1) := by decide +kernel
theorem dX7_next_31 : decode cX7_next 31 = .ok (.iadd, 1) := by decide +kernel
theorem dX7_next_32 : decode cX7_next 32 = .ok (.putfield 19, 3) := by decide +kernel
theorem dX7_next_35 : decode cX7_next 35 = .ok (.goto (-35), 3) := by decide +kernel
theorem dX7_next_38 : decode cX7_next 38 = .ok (.aload_n 0, 1) := by decide +kernel
theorem dX7_next_39 : decode cX7_next 39 = .ok (.getfield 19, 3) := by decide +kernel
theorem dX7_next_42 : decode cX7_next 42 = .ok (.aload_n 0, 1) := by decide +kernel
theorem dX7_next_43 : decode cX7_next 43 = .ok (.getfield 15, 3) := by decide +kernel
theorem dX7_next_46 : decode cX7_next 46 = .ok (.if_icmp .ge 15, 3) := by decide +kernel
theorem dX7_next_49 : decode cX7_next 49 = .ok (.aload_n 0, 1) := by decide +kernel
theorem dX7_next_50 : decode cX7_next 50 = .ok (.getfield 11, 3) := by decide +kernel
theorem dX7_next_53 : decode cX7_next 53 = .ok (.aload_n 0, 1) := by decide +kernel
theorem dX7_next_54 : decode cX7_next 54 = .ok (.getfield 19, 3) := by decide +kernel
theorem dX7_next_57 : decode cX7_next 57 = .ok (.iaload, 1) := by decide +kernel
theorem dX7_next_58 : decode cX7_next 58 = .ok (.goto 4, 3) := by decide +kernel
theorem dX7_next_61 : decode cX7_next 61 = .ok (.iconst (-1), 1) := by decide +kernel
theorem dX7_next_62 : decode cX7_next 62 = .ok (.ireturn, 1) := by decide +kernel
theorem dX7_takes_0 : decode cX7_takes 0 = .ok (.aload_n 0, 1) := by decide +kernel
theorem dX7_takes_1 : decode cX7_takes 1 = .ok (.getfield 19, 3) := by decide +kernel
theorem dX7_takes_4 : decode cX7_takes 4 = .ok (.aload_n 0, 1) := by decide +kernel
theorem dX7_takes_5 : decode cX7_takes 5 = .ok (.getfield 15, 3) := by decide +kernel
theorem dX7_takes_8 : decode cX7_takes 8 = .ok (.if_icmp .ge 28, 3) := by decide +kernel
theorem dX7_takes_11 : decode cX7_takes 11 = .ok (.aload_n 0, 1) := by decide +kernel
theorem dX7_takes_12 : decode cX7_takes 12 = .ok (.getfield 11, 3) := by decide +kernel
theorem dX7_takes_15 : decode cX7_takes 15 = .ok (.aload_n 0, 1) := by decide +kernel
theorem dX7_takes_16 : decode cX7_takes 16 = .ok (.getfield 19, 3) := by decide +kernel
theorem dX7_takes_19 : decode cX7_takes 19 = .ok (.iaload, 1) := by decide +kernel
theorem dX7_takes_20 : decode cX7_takes 20 = .ok (.iload_n 1, 1) := by decide +kernel
theorem dX7_takes_21 : decode cX7_takes 21 = .ok (.if_icmp .ne 15, 3) := by decide +kernel
theorem dX7_takes_24 : decode cX7_takes 24 = .ok (.aload_n 0, 1) := by decide +kernel
theorem dX7_takes_25 : decode cX7_takes 25 = .ok (.dup, 1) := by decide +kernel
theorem dX7_takes_26 : decode cX7_takes 26 = .ok (.getfield 19, 3) := by decide +kernel
theorem dX7_takes_29 : decode cX7_takes 29 = .ok (.iconst 1, 1) := by decide +kernel
theorem dX7_takes_30 : decode cX7_takes 30 = .ok (.iadd, 1) := by decide +kernel
theorem dX7_takes_31 : decode cX7_takes 31 = .ok (.putfield 19, 3) := by decide +kernel
theorem dX7_takes_34 : decode cX7_takes 34 = .ok (.iconst 1, 1) := by decide +kernel
theorem dX7_takes_35 : decode cX7_takes 35 = .ok (.ireturn, 1) := by decide +kernel
theorem dX7_takes_36 : decode cX7_takes 36 = .ok (.iconst 0, 1) := by decide +kernel
theorem dX7_takes_37 : decode cX7_takes 37 = .ok (.ireturn, 1) := by decide +kernel
theorem dX7_number_0 : decode cX7_number 0 = .ok (.aload_n 0, 1) := by decide +kernel
theorem dX7_number_1 : decode cX7_number 1 = .ok (.invokevirtual 29, 3) := by decide +kernel
theorem dX7_number_4 : decode cX7_number 4 = .ok (.pop, 1) := by decide +kernel
theorem dX7_number_5 : decode cX7_number 5 = .ok (.aload_n 0, 1) := by decide +kernel
theorem dX7_number_6 : decode cX7_number 6 = .ok (.getfield 19, 3) := by decide +kernel
theorem dX7_number_9 : decode cX7_number 9 = .ok (.istore_n 3, 1) := by decide +kernel
theorem dX7_number_10 : decode cX7_number 10 = .ok (.iconst 0, 1) := by decide +kernel
theorem dX7_number_11 : decode cX7_number 11 = .ok (.istore 4, 2) := by decide +kernel
theorem dX7_number_13 : decode cX7_number 13 = .ok (.aload_n 0, 1) := by decide +kernel
theorem dX7_number_14 : decode cX7_number 14 = .ok (.getfield 19, 3) := by decide +kernel
theorem dX7_number_17 : decode cX7_number 17 = .ok (.aload_n 0, 1) := by decide +kernel
theorem dX7_number_18 : decode cX7_number 18 = .ok (.getfield 15, 3) := by decide +kernel
theorem dX7_number_21 : decode cX7_number 21 = .ok (.if_icmp .ge 74, 3) := by decide +kernel
theorem dX7_number_24 : decode cX7_number 24 = .ok (.aload_n 0, 1) := by decide +kernel
theorem dX7_number_25 : decode cX7_number 25 = .ok (.getfield 11, 3) := by decide +kernel
theorem dX7_number_28 : decode cX7_number 28 = .ok (.aload_n 0, 1) := by decide +kernel
theorem dX7_number_29 : decode cX7_number 29 = .ok (.getfield 19, 3) := by decide +kernel
theorem dX7_number_32 : decode cX7_number 32 = .ok (.iaload, 1) := by decide +kernel
theorem dX7_number_33 : decode cX7_number 33 = .ok (.bipush 48, 2) := by decide +kernel
theorem dX7_number_35 : decode cX7_number 35 = .ok (.if_icmp .lt 60, 3) := by decide +kernel
theorem dX7_number_38 : decode cX7_number 38 = .ok (.aload_n 0, 1) := by decide +kernel
theorem dX7_number_39 : decode cX7_number 39 = .ok (.getfield 11, 3) := by decide +kernel
theorem dX7_number_42 : decode cX7_number 42 = .ok (.aload_n 0, 1) := by decide +kernel
theorem dX7_number_43 : decode cX7_number 43 = .ok (.getfield 19, 3) := by decide +kernel
theorem dX7_number_46 : decode cX7_number 46 = .ok (.iaload, 1) := by decide +kernel
theorem dX7_number_47 : decode cX7_number 47 = .ok (.bipush 57, 2) := by decide +kernel
theorem dX7_number_49 : decode cX7_number 49 = .ok (.if_icmp .gt 46, 3) := by decide +kernel
theorem dX7_number_52 : decode cX7_number 52 = .ok (.aload_n 0, 1) := by decide +kernel
theorem dX7_number_53 : decode cX7_number 53 = .ok (.getfield 19, 3) := by decide +kernel
theorem dX7_number_56 : decode cX7_number 56 = .ok (.iload_n 3, 1) := by decide +kernel
theorem dX7_number_57 : decode cX7_number 57 = .ok (.isub, 1) := by decide +kernel
theorem dX7_number_58 : decode cX7_number 58 = .ok (.iconst 5, 1) := by decide +kernel
theorem dX7_number_59 : decode cX7_number 59 = .ok (.if_icmp .ge 23, 3) := by decide +kernel
theorem dX7_number_62 : decode cX7_number 62 = .ok (.iload 4, 2) := by decide +kernel
theorem dX7_number_64 : decode cX7_number 64 = .ok (.bipush 10, 2) := by decide +kernel
theorem dX7_number_66 : decode cX7_number 66 = .ok (.imul, 1) := by decide +kernel
theorem dX7_number_67 : decode cX7_number 67 = .ok (.aload_n 0, 1) := by decide +kernel
theorem dX7_number_68 : decode cX7_number 68 = .ok (.getfield 11, 3) := by decide +kernel
theorem dX7_number_71 : decode cX7_number 71 = .ok (.aload_n 0, 1) := by decide +kernel
theorem dX7_number_72 : decode cX7_number 72 = .ok (.getfield 19, 3) := by decide +kernel
theorem dX7_number_75 : decode cX7_number 75 = .ok (.iaload, 1) := by decide +kernel
theorem dX7_number_76 : decode cX7_number 76 = .ok (.iadd, 1) := by decide +kernel
theorem dX7_number_77 : decode cX7_number 77 = .ok (.bipush 48, 2) := by decide +kernel
theorem dX7_number_79 : decode cX7_number 79 = .ok (.isub, 1) := by decide +kernel
theorem dX7_number_80 : decode cX7_number 80 = .ok (.istore 4, 2) := by decide +kernel
theorem dX7_number_82 : decode cX7_number 82 = .ok (.aload_n 0, 1) := by decide +kernel
theorem dX7_number_83 : decode cX7_number 83 = .ok (.dup, 1) := by decide +kernel
theorem dX7_number_84 : decode cX7_number 84 = .ok (.getfield 19, 3) := by decide +kernel
theorem dX7_number_87 : decode cX7_number 87 = .ok (.iconst 1, 1) := by decide +kernel
theorem dX7_number_88 : decode cX7_number 88 = .ok (.iadd, 1) := by decide +kernel
theorem dX7_number_89 : decode cX7_number 89 = .ok (.putfield 19, 3) := by decide +kernel
theorem dX7_number_92 : decode cX7_number 92 = .ok (.goto (-79), 3) := by decide +kernel
theorem dX7_number_95 : decode cX7_number 95 = .ok (.aload_n 0, 1) := by decide +kernel
theorem dX7_number_96 : decode cX7_number 96 = .ok (.getfield 19, 3) := by decide +kernel
theorem dX7_number_99 : decode cX7_number 99 = .ok (.iload_n 3, 1) := by decide +kernel
theorem dX7_number_100 : decode cX7_number 100 = .ok (.if_icmp .ne 12, 3) := by decide +kernel
theorem dX7_number_103 : decode cX7_number 103 = .ok (.aload_n 0, 1) := by decide +kernel
theorem dX7_number_104 : decode cX7_number 104 = .ok (.iconst 0, 1) := by decide +kernel
theorem dX7_number_105 : decode cX7_number 105 = .ok (.iload_n 3, 1) := by decide +kernel
theorem dX7_number_106 : decode cX7_number 106 = .ok (.invokevirtual 33, 3) := by decide +kernel
theorem dX7_number_109 : decode cX7_number 109 = .ok (.goto 31, 3) := by decide +kernel
theorem dX7_number_112 : decode cX7_number 112 = .ok (.aload_n 0, 1) := by decide +kernel
theorem dX7_number_113 : decode cX7_number 113 = .ok (.getfield 19, 3) := by decide +kernel
theorem dX7_number_116 : decode cX7_number 116 = .ok (.iload_n 3, 1) := by decide +kernel
theorem dX7_number_117 : decode cX7_number 117 = .ok (.isub, 1) := by decide +kernel
theorem dX7_number_118 : decode cX7_number 118 = .ok (.iconst 5, 1) := by decide +kernel
theorem dX7_number_119 : decode cX7_number 119 = .ok (.if_icmp .gt 15, 3) := by decide +kernel
theorem dX7_number_122 : decode cX7_number 122 = .ok (.iload 4, 2) := by decide +kernel
theorem dX7_number_124 : decode cX7_number 124 = .ok (.iload_n 1, 1) := by decide +kernel
theorem dX7_number_125 : decode cX7_number 125 = .ok (.if_icmp .lt 9, 3) := by decide +kernel
theorem dX7_number_128 : decode cX7_number 128 = .ok (.iload 4, 2) := by decide +kernel
theorem dX7_number_130 : decode cX7_number 130 = .ok (.iload_n 2, 1) := by decide +kernel
theorem dX7_number_131 : decode cX7_number 131 = .ok (.if_icmp .le 9, 3) := by decide +kernel
theorem dX7_number_134 : decode cX7_number 134 = .ok (.aload_n 0, 1) := by decide +kernel
theorem dX7_number_135 : decode cX7_number 135 = .ok (.iconst 1, 1) := by decide +kernel
theorem dX7_number_136 : decode cX7_number 136 = .ok (.iload_n 3, 1) := by decide +kernel
theorem dX7_number_137 : decode cX7_number 137 = .ok (.invokevirtual 33, 3) := by decide +kernel
theorem dX7_number_140 : decode cX7_number 140 = .ok (.iload 4, 2) := by decide +kernel
theorem dX7_number_142 : decode cX7_number 142 = .ok (.ireturn, 1) := by decide +kernel
theorem dX7_wordOf_0 : decode cX7_wordOf 0 = .ok (.aload_n 0, 1) := by decide +kernel
theorem dX7_wordOf_1 : decode cX7_wordOf 1 = .ok (.invokevirtual 29, 3) := by decide +kernel
theorem dX7_wordOf_4 : decode cX7_wordOf 4 = .ok (.pop, 1) := by decide +kernel
theorem dX7_wordOf_5 : decode cX7_wordOf 5 = .ok (.aload_n 0, 1) := by decide +kernel
theorem dX7_wordOf_6 : decode cX7_wordOf 6 = .ok (.invokevirtual 37, 3) := by decide +kernel
theorem dX7_wordOf_9 : decode cX7_wordOf 9 = .ok (.istore_n 2, 1) := by decide +kernel
theorem dX7_wordOf_10 : decode cX7_wordOf 10 = .ok (.iconst 0, 1) := by decide +kernel
theorem dX7_wordOf_11 : decode cX7_wordOf 11 = .ok (.istore_n 3, 1) := by decide +kernel
theorem dX7_wordOf_12 : decode cX7_wordOf 12 = .ok (.iconst 0, 1) := by decide +kernel
theorem dX7_wordOf_13 : decode cX7_wordOf 13 = .ok (.istore 4, 2) := by decide +kernel
theorem dX7_wordOf_15 : decode cX7_wordOf 15 = .ok (.iconst 0, 1) := by decide +kernel
theorem dX7_wordOf_16 : decode cX7_wordOf 16 = .ok (.istore 5, 2) := by decide +kernel
theorem dX7_wordOf_18 : decode cX7_wordOf 18 = .ok (.iload 5, 2) := by decide +kernel
theorem dX7_wordOf_20 : decode cX7_wordOf 20 = .ok (.aload_n 1, 1) := by decide +kernel
theorem dX7_wordOf_21 : decode cX7_wordOf 21 = .ok (.invokevirtual 40, 3) := by decide +kernel
theorem dX7_wordOf_24 : decode cX7_wordOf 24 = .ok (.if_icmp .gt 58, 3) := by decide +kernel
theorem dX7_wordOf_27 : decode cX7_wordOf 27 = .ok (.iload 5, 2) := by decide +kernel
theorem dX7_wordOf_29 : decode cX7_wordOf 29 = .ok (.aload_n 1, 1) := by decide +kernel
theorem dX7_wordOf_30 : decode cX7_wordOf 30 = .ok (.invokevirtual 40, 3) := by decide +kernel
theorem dX7_wordOf_33 : decode cX7_wordOf 33 = .ok (.if_icmp .eq 14, 3) := by decide +kernel
theorem dX7_wordOf_36 : decode cX7_wordOf 36 = .ok (.aload_n 1, 1) := by decide +kernel
theorem dX7_wordOf_37 : decode cX7_wordOf 37 = .ok (.iload 5, 2) := by decide +kernel
theorem dX7_wordOf_39 : decode cX7_wordOf 39 = .ok (.invokevirtual 44, 3) := by decide +kernel
theorem dX7_wordOf_42 : decode cX7_wordOf 42 = .ok (.bipush 32, 2) := by decide +kernel
theorem dX7_wordOf_44 : decode cX7_wordOf 44 = .ok (.if_icmp .ne 32, 3) := by decide +kernel
theorem dX7_wordOf_47 : decode cX7_wordOf 47 = .ok (.iload 5, 2) := by decide +kernel
theorem dX7_wordOf_49 : decode cX7_wordOf 49 = .ok (.iload_n 3, 1) := by decide +kernel
theorem dX7_wordOf_50 : decode cX7_wordOf 50 = .ok (.isub, 1) := by decide +kernel
theorem dX7_wordOf_51 : decode cX7_wordOf 51 = .ok (.iload_n 2, 1) := by decide +kernel
theorem dX7_wordOf_52 : decode cX7_wordOf 52 = .ok (.if_icmp .ne 16, 3) := by decide +kernel
theorem dX7_wordOf_55 : decode cX7_wordOf 55 = .ok (.aload_n 0, 1) := by decide +kernel
theorem dX7_wordOf_56 : decode cX7_wordOf 56 = .ok (.aload_n 1, 1) := by decide +kernel
theorem dX7_wordOf_57 : decode cX7_wordOf 57 = .ok (.iload_n 3, 1) := by decide +kernel
theorem dX7_wordOf_58 : decode cX7_wordOf 58 = .ok (.iload_n 2, 1) := by decide +kernel
theorem dX7_wordOf_59 : decode cX7_wordOf 59 = .ok (.invokevirtual 48, 3) := by decide +kernel
theorem dX7_wordOf_62 : decode cX7_wordOf 62 = .ok (.ifCond .eq 6, 3) := by decide +kernel
theorem dX7_wordOf_65 : decode cX7_wordOf 65 = .ok (.iload 4, 2) := by decide +kernel
theorem dX7_wordOf_67 : decode cX7_wordOf 67 = .ok (.ireturn, 1) := by decide +kernel
theorem dX7_wordOf_68 : decode cX7_wordOf 68 = .ok (.iload 5, 2) := by decide +kernel
theorem dX7_wordOf_70 : decode cX7_wordOf 70 = .ok (.iconst 1, 1) := by decide +kernel
theorem dX7_wordOf_71 : decode cX7_wordOf 71 = .ok (.iadd, 1) := by decide +kernel
theorem dX7_wordOf_72 : decode cX7_wordOf 72 = .ok (.istore_n 3, 1) := by decide +kernel
theorem dX7_wordOf_73 : decode cX7_wordOf 73 = .ok (.iinc 4 1, 3) := by decide +kernel
theorem dX7_wordOf_76 : decode cX7_wordOf 76 = .ok (.iinc 5 1, 3) := by decide +kernel
theorem dX7_wordOf_79 : decode cX7_wordOf 79 = .ok (.goto (-61), 3) := by decide +kernel
theorem dX7_wordOf_82 : decode cX7_wordOf 82 = .ok (.iconst (-1), 1) := by decide +kernel
theorem dX7_wordOf_83 : decode cX7_wordOf 83 = .ok (.ireturn, 1) := by decide +kernel
theorem dX7_takesWord_0 : decode cX7_takesWord 0 = .ok (.aload_n 0, 1) := by decide +kernel
theorem dX7_takesWord_1 : decode cX7_takesWord 1 = .ok (.aload_n 1, 1) := by decide +kernel
theorem dX7_takesWord_2 : decode cX7_takesWord 2 = .ok (.invokevirtual 52, 3) := by decide +kernel
theorem dX7_takesWord_5 : decode cX7_takesWord 5 = .ok (.iconst (-1), 1) := by decide +kernel
theorem dX7_takesWord_6 : decode cX7_takesWord 6 = .ok (.if_icmp .ne 5, 3) := by decide +kernel
theorem dX7_takesWord_9 : decode cX7_takesWord 9 = .ok (.iconst 0, 1) := by decide +kernel
theorem dX7_takesWord_10 : decode cX7_takesWord 10 = .ok (.ireturn, 1) := by decide +kernel
theorem dX7_takesWord_11 : decode cX7_takesWord 11 = .ok (.aload_n 0, 1) := by decide +kernel
theorem dX7_takesWord_12 : decode cX7_takesWord 12 = .ok (.invokevirtual 56, 3) := by decide +kernel
theorem dX7_takesWord_15 : decode cX7_takesWord 15 = .ok (.iconst 1, 1) := by decide +kernel
theorem dX7_takesWord_16 : decode cX7_takesWord 16 = .ok (.ireturn, 1) := by decide +kernel
theorem dX7_skipWord_0 : decode cX7_skipWord 0 = .ok (.aload_n 0, 1) := by decide +kernel
theorem dX7_skipWord_1 : decode cX7_skipWord 1 = .ok (.dup, 1) := by decide +kernel
theorem dX7_skipWord_2 : decode cX7_skipWord 2 = .ok (.getfield 19, 3) := by decide +kernel
theorem dX7_skipWord_5 : decode cX7_skipWord 5 = .ok (.aload_n 0, 1) := by decide +kernel
theorem dX7_skipWord_6 : decode cX7_skipWord 6 = .ok (.invokevirtual 37, 3) := by decide +kernel
theorem dX7_skipWord_9 : decode cX7_skipWord 9 = .ok (.iadd, 1) := by decide +kernel
theorem dX7_skipWord_10 : decode cX7_skipWord 10 = .ok (.putfield 19, 3) := by decide +kernel
theorem dX7_skipWord_13 : decode cX7_skipWord 13 = .ok (.return_, 1) := by decide +kernel
theorem dX7_letters_0 : decode cX7_letters 0 = .ok (.iconst 0, 1) := by decide +kernel
theorem dX7_letters_1 : decode cX7_letters 1 = .ok (.istore_n 1, 1) := by decide +kernel
theorem dX7_letters_2 : decode cX7_letters 2 = .ok (.aload_n 0, 1) := by decide +kernel
theorem dX7_letters_3 : decode cX7_letters 3 = .ok (.getfield 19, 3) := by decide +kernel
theorem dX7_letters_6 : decode cX7_letters 6 = .ok (.iload_n 1, 1) := by decide +kernel
theorem dX7_letters_7 : decode cX7_letters 7 = .ok (.iadd, 1) := by decide +kernel
theorem dX7_letters_8 : decode cX7_letters 8 = .ok (.aload_n 0, 1) := by decide +kernel
theorem dX7_letters_9 : decode cX7_letters 9 = .ok (.getfield 15, 3) := by decide +kernel
theorem dX7_letters_12 : decode cX7_letters 12 = .ok (.if_icmp .ge 41, 3) := by decide +kernel
theorem dX7_letters_15 : decode cX7_letters 15 = .ok (.aload_n 0, 1) := by decide +kernel
theorem dX7_letters_16 : decode cX7_letters 16 = .ok (.getfield 11, 3) := by decide +kernel
theorem dX7_letters_19 : decode cX7_letters 19 = .ok (.aload_n 0, 1) := by decide +kernel
theorem dX7_letters_20 : decode cX7_letters 20 = .ok (.getfield 19, 3) := by decide +kernel
theorem dX7_letters_23 : decode cX7_letters 23 = .ok (.iload_n 1, 1) := by decide +kernel
theorem dX7_letters_24 : decode cX7_letters 24 = .ok (.iadd, 1) := by decide +kernel
theorem dX7_letters_25 : decode cX7_letters 25 = .ok (.iaload, 1) := by decide +kernel
theorem dX7_letters_26 : decode cX7_letters 26 = .ok (.bipush 97, 2) := by decide +kernel
theorem dX7_letters_28 : decode cX7_letters 28 = .ok (.if_icmp .lt 25, 3) := by decide +kernel
theorem dX7_letters_31 : decode cX7_letters 31 = .ok (.aload_n 0, 1) := by decide +kernel
theorem dX7_letters_32 : decode cX7_letters 32 = .ok (.getfield 11, 3) := by decide +kernel
theorem dX7_letters_35 : decode cX7_letters 35 = .ok (.aload_n 0, 1) := by decide +kernel
theorem dX7_letters_36 : decode cX7_letters 36 = .ok (.getfield 19, 3) := by decide +kernel
theorem dX7_letters_39 : decode cX7_letters 39 = .ok (.iload_n 1, 1) := by decide +kernel
theorem dX7_letters_40 : decode cX7_letters 40 = .ok (.iadd, 1) := by decide +kernel
theorem dX7_letters_41 : decode cX7_letters 41 = .ok (.iaload, 1) := by decide +kernel
theorem dX7_letters_42 : decode cX7_letters 42 = .ok (.bipush 122, 2) := by decide +kernel
theorem dX7_letters_44 : decode cX7_letters 44 = .ok (.if_icmp .gt 9, 3) := by decide +kernel
theorem dX7_letters_47 : decode cX7_letters 47 = .ok (.iinc 1 1, 3) := by decide +kernel
theorem dX7_letters_50 : decode cX7_letters 50 = .ok (.goto (-48), 3) := by decide +kernel
theorem dX7_letters_53 : decode cX7_letters 53 = .ok (.iload_n 1, 1) := by decide +kernel
theorem dX7_letters_54 : decode cX7_letters 54 = .ok (.ireturn, 1) := by decide +kernel
theorem dX7_isNext_0 : decode cX7_isNext 0 = .ok (.iconst 0, 1) := by decide +kernel
theorem dX7_isNext_1 : decode cX7_isNext 1 = .ok (.istore 4, 2) := by decide +kernel
theorem dX7_isNext_3 : decode cX7_isNext 3 = .ok (.iload 4, 2) := by decide +kernel
theorem dX7_isNext_5 : decode cX7_isNext 5 = .ok (.iload_n 3, 1) := by decide +kernel
theorem dX7_isNext_6 : decode cX7_isNext 6 = .ok (.if_icmp .ge 59, 3) := by decide +kernel
theorem dX7_isNext_9 : decode cX7_isNext 9 = .ok (.iload_n 2, 1) := by decide +kernel
theorem dX7_isNext_10 : decode cX7_isNext 10 = .ok (.iload 4, 2) := by decide +kernel
theorem dX7_isNext_12 : decode cX7_isNext 12 = .ok (.iadd, 1) := by decide +kernel
theorem dX7_isNext_13 : decode cX7_isNext 13 = .ok (.aload_n 1, 1) := by decide +kernel
theorem dX7_isNext_14 : decode cX7_isNext 14 = .ok (.invokevirtual 40, 3) := by decide +kernel
theorem dX7_isNext_17 : decode cX7_isNext 17 = .ok (.if_icmp .ge 40, 3) := by decide +kernel
theorem dX7_isNext_20 : decode cX7_isNext 20 = .ok (.aload_n 0, 1) := by decide +kernel
theorem dX7_isNext_21 : decode cX7_isNext 21 = .ok (.getfield 19, 3) := by decide +kernel
theorem dX7_isNext_24 : decode cX7_isNext 24 = .ok (.iload 4, 2) := by decide +kernel
theorem dX7_isNext_26 : decode cX7_isNext 26 = .ok (.iadd, 1) := by decide +kernel
theorem dX7_isNext_27 : decode cX7_isNext 27 = .ok (.aload_n 0, 1) := by decide +kernel
theorem dX7_isNext_28 : decode cX7_isNext 28 = .ok (.getfield 15, 3) := by decide +kernel
theorem dX7_isNext_31 : decode cX7_isNext 31 = .ok (.if_icmp .ge 26, 3) := by decide +kernel
theorem dX7_isNext_34 : decode cX7_isNext 34 = .ok (.aload_n 1, 1) := by decide +kernel
theorem dX7_isNext_35 : decode cX7_isNext 35 = .ok (.iload_n 2, 1) := by decide +kernel
theorem dX7_isNext_36 : decode cX7_isNext 36 = .ok (.iload 4, 2) := by decide +kernel
theorem dX7_isNext_38 : decode cX7_isNext 38 = .ok (.iadd, 1) := by decide +kernel
theorem dX7_isNext_39 : decode cX7_isNext 39 = .ok (.invokevirtual 44, 3) := by decide +kernel
theorem dX7_isNext_42 : decode cX7_isNext 42 = .ok (.aload_n 0, 1) := by decide +kernel
theorem dX7_isNext_43 : decode cX7_isNext 43 = .ok (.getfield 11, 3) := by decide +kernel
theorem dX7_isNext_46 : decode cX7_isNext 46 = .ok (.aload_n 0, 1) := by decide +kernel
theorem dX7_isNext_47 : decode cX7_isNext 47 = .ok (.getfield 19, 3) := by decide +kernel
theorem dX7_isNext_50 : decode cX7_isNext 50 = .ok (.iload 4, 2) := by decide +kernel
theorem dX7_isNext_52 : decode cX7_isNext 52 = .ok (.iadd, 1) := by decide +kernel
theorem dX7_isNext_53 : decode cX7_isNext 53 = .ok (.iaload, 1) := by decide +kernel
theorem dX7_isNext_54 : decode cX7_isNext 54 = .ok (.if_icmp .eq 5, 3) := by decide +kernel
theorem dX7_isNext_57 : decode cX7_isNext 57 = .ok (.iconst 0, 1) := by decide +kernel
theorem dX7_isNext_58 : decode cX7_isNext 58 = .ok (.ireturn, 1) := by decide +kernel
theorem dX7_isNext_59 : decode cX7_isNext 59 = .ok (.iinc 4 1, 3) := by decide +kernel
theorem dX7_isNext_62 : decode cX7_isNext 62 = .ok (.goto (-59), 3) := by decide +kernel
theorem dX7_isNext_65 : decode cX7_isNext 65 = .ok (.iconst 1, 1) := by decide +kernel
theorem dX7_isNext_66 : decode cX7_isNext 66 = .ok (.ireturn, 1) := by decide +kernel
theorem dX7_takesOneOf_0 : decode cX7_takesOneOf 0 = .ok (.aload_n 0, 1) := by decide +kernel
theorem dX7_takesOneOf_1 : decode cX7_takesOneOf 1 = .ok (.invokevirtual 29, 3) := by decide +kernel
theorem dX7_takesOneOf_4 : decode cX7_takesOneOf 4 = .ok (.istore_n 2, 1) := by decide +kernel
theorem dX7_takesOneOf_5 : decode cX7_takesOneOf 5 = .ok (.iconst 0, 1) := by decide +kernel
theorem dX7_takesOneOf_6 : decode cX7_takesOneOf 6 = .ok (.istore_n 3, 1) := by decide +kernel
theorem dX7_takesOneOf_7 : decode cX7_takesOneOf 7 = .ok (.iload_n 3, 1) := by decide +kernel
theorem dX7_takesOneOf_8 : decode cX7_takesOneOf 8 = .ok (.aload_n 1, 1) := by decide +kernel
theorem dX7_takesOneOf_9 : decode cX7_takesOneOf 9 = .ok (.invokevirtual 40, 3) := by decide +kernel
theorem dX7_takesOneOf_12 : decode cX7_takesOneOf 12 = .ok (.if_icmp .ge 30, 3) := by decide +kernel
theorem dX7_takesOneOf_15 : decode cX7_takesOneOf 15 = .ok (.iload_n 2, 1) := by decide +kernel
theorem dX7_takesOneOf_16 : decode cX7_takesOneOf 16 = .ok (.aload_n 1, 1) := by decide +kernel
theorem dX7_takesOneOf_17 : decode cX7_takesOneOf 17 = .ok (.iload_n 3, 1) := by decide +kernel
theorem dX7_takesOneOf_18 : decode cX7_takesOneOf 18 = .ok (.invokevirtual 44, 3) := by decide +kernel
theorem dX7_takesOneOf_21 : decode cX7_takesOneOf 21 = .ok (.if_icmp .ne 15, 3) := by decide +kernel
theorem dX7_takesOneOf_24 : decode cX7_takesOneOf 24 = .ok (.aload_n 0, 1) := by decide +kernel
theorem dX7_takesOneOf_25 : decode cX7_takesOneOf 25 = .ok (.dup, 1) := by decide +kernel
theorem dX7_takesOneOf_26 : decode cX7_takesOneOf 26 = .ok (.getfield 19, 3) := by decide +kernel
theorem dX7_takesOneOf_29 : decode cX7_takesOneOf 29 = .ok (.iconst 1, 1) := by decide +kernel
theorem dX7_takesOneOf_30 : decode cX7_takesOneOf 30 = .ok (.iadd, 1) := by decide +kernel
theorem dX7_takesOneOf_31 : decode cX7_takesOneOf 31 = .ok (.putfield 19, 3) := by decide +kernel
theorem dX7_takesOneOf_34 : decode cX7_takesOneOf 34 = .ok (.iload_n 3, 1) := by decide +kernel
theorem dX7_takesOneOf_35 : decode cX7_takesOneOf 35 = .ok (.ireturn, 1) := by decide +kernel
theorem dX7_takesOneOf_36 : decode cX7_takesOneOf 36 = .ok (.iinc 3 1, 3) := by decide +kernel
theorem dX7_takesOneOf_39 : decode cX7_takesOneOf 39 = .ok (.goto (-32), 3) := by decide +kernel
theorem dX7_takesOneOf_42 : decode cX7_takesOneOf 42 = .ok (.iconst (-1), 1) := by decide +kernel
theorem dX7_takesOneOf_43 : decode cX7_takesOneOf 43 = .ok (.ireturn, 1) := by decide +kernel
theorem dX7_goesOn_0 : decode cX7_goesOn 0 = .ok (.aload_n 0, 1) := by decide +kernel
theorem dX7_goesOn_1 : decode cX7_goesOn 1 = .ok (.invokevirtual 59, 3) := by decide +kernel
theorem dX7_goesOn_4 : decode cX7_goesOn 4 = .ok (.ifCond .ne 11, 3) := by decide +kernel
theorem dX7_goesOn_7 : decode cX7_goesOn 7 = .ok (.aload_n 0, 1) := by decide +kernel
theorem dX7_goesOn_8 : decode cX7_goesOn 8 = .ok (.invokevirtual 29, 3) := by decide +kernel
theorem dX7_goesOn_11 : decode cX7_goesOn 11 = .ok (.iconst (-1), 1) := by decide +kernel
theorem dX7_goesOn_12 : decode cX7_goesOn 12 = .ok (.if_icmp .ne 5, 3) := by decide +kernel
theorem dX7_goesOn_15 : decode cX7_goesOn 15 = .ok (.iconst 0, 1) := by decide +kernel
theorem dX7_goesOn_16 : decode cX7_goesOn 16 = .ok (.ireturn, 1) := by decide +kernel
theorem dX7_goesOn_17 : decode cX7_goesOn 17 = .ok (.aload_n 0, 1) := by decide +kernel
theorem dX7_goesOn_18 : decode cX7_goesOn 18 = .ok (.bipush 59, 2) := by decide +kernel
theorem dX7_goesOn_20 : decode cX7_goesOn 20 = .ok (.invokevirtual 63, 3) := by decide +kernel
theorem dX7_goesOn_23 : decode cX7_goesOn 23 = .ok (.ifCond .eq 5, 3) := by decide +kernel
theorem dX7_goesOn_26 : decode cX7_goesOn 26 = .ok (.iconst 1, 1) := by decide +kernel
theorem dX7_goesOn_27 : decode cX7_goesOn 27 = .ok (.ireturn, 1) := by decide +kernel
theorem dX7_goesOn_28 : decode cX7_goesOn 28 = .ok (.aload_n 0, 1) := by decide +kernel
theorem dX7_goesOn_29 : decode cX7_goesOn 29 = .ok (.iconst 0, 1) := by decide +kernel
theorem dX7_goesOn_30 : decode cX7_goesOn 30 = .ok (.aload_n 0, 1) := by decide +kernel
theorem dX7_goesOn_31 : decode cX7_goesOn 31 = .ok (.getfield 19, 3) := by decide +kernel
theorem dX7_goesOn_34 : decode cX7_goesOn 34 = .ok (.invokevirtual 33, 3) := by decide +kernel
theorem dX7_goesOn_37 : decode cX7_goesOn 37 = .ok (.iconst 0, 1) := by decide +kernel
theorem dX7_goesOn_38 : decode cX7_goesOn 38 = .ok (.ireturn, 1) := by decide +kernel
theorem dX8_init_0 : decode cX8_init 0 = .ok (.aload_n 0, 1) := by decide +kernel
theorem dX8_init_1 : decode cX8_init 1 = .ok (.invokespecial 1, 3) := by decide +kernel
theorem dX8_init_4 : decode cX8_init 4 = .ok (.aload_n 0, 1) := by decide +kernel
theorem dX8_init_5 : decode cX8_init 5 = .ok (.new 7, 3) := by decide +kernel
theorem dX8_init_8 : decode cX8_init 8 = .ok (.dup, 1) := by decide +kernel
theorem dX8_init_9 : decode cX8_init 9 = .ok (.invokespecial 9, 3) := by decide +kernel
theorem dX8_init_12 : decode cX8_init 12 = .ok (.putfield 10, 3) := by decide +kernel
theorem dX8_init_15 : decode cX8_init 15 = .ok (.aload_n 0, 1) := by decide +kernel
theorem dX8_init_16 : decode cX8_init 16 = .ok (.bipush 6, 2) := by decide +kernel
theorem dX8_init_18 : decode cX8_init 18 = .ok (.anewarray 16, 3) := by decide +kernel
theorem dX8_init_21 : decode cX8_init 21 = .ok (.putfield 18, 3) := by decide +kernel
theorem dX8_init_24 : decode cX8_init 24 = .ok (.aload_n 0, 1) := by decide +kernel
theorem dX8_init_25 : decode cX8_init 25 = .ok (.iconst 0, 1) := by decide +kernel
theorem dX8_init_26 : decode cX8_init 26 = .ok (.putfield 22, 3) := by decide +kernel
theorem dX8_init_29 : decode cX8_init 29 = .ok (.aload_n 0, 1) := by decide +kernel
theorem dX8_init_30 : decode cX8_init 30 = .ok (.new 26, 3) := by decide +kernel
theorem dX8_init_33 : decode cX8_init 33 = .ok (.dup, 1) := by decide +kernel
theorem dX8_init_34 : decode cX8_init 34 = .ok (.invokespecial 28, 3) := by decide +kernel
theorem dX8_init_37 : decode cX8_init 37 = .ok (.putfield 29, 3) := by decide +kernel
theorem dX8_init_40 : decode cX8_init 40 = .ok (.aload_n 0, 1) := by decide +kernel
theorem dX8_init_41 : decode cX8_init 41 = .ok (.new 26, 3) := by decide +kernel
theorem dX8_init_44 : decode cX8_init 44 = .ok (.dup, 1) := by decide +kernel
theorem dX8_init_45 : decode cX8_init 45 = .ok (.invokespecial 28, 3) := by decide +kernel
theorem dX8_init_48 : decode cX8_init 48 = .ok (.putfield 33, 3) := by decide +kernel
theorem dX8_init_51 : decode cX8_init 51 = .ok (.aload_n 0, 1) := by decide +kernel
theorem dX8_init_52 : decode cX8_init 52 = .ok (.new 26, 3) := by decide +kernel
theorem dX8_init_55 : decode cX8_init 55 = .ok (.dup, 1) := by decide +kernel
theorem dX8_init_56 : decode cX8_init 56 = .ok (.invokespecial 28, 3) := by decide +kernel
theorem dX8_init_59 : decode cX8_init 59 = .ok (.putfield 36, 3) := by decide +kernel
theorem dX8_init_62 : decode cX8_init 62 = .ok (.aload_n 0, 1) := by decide +kernel
theorem dX8_init_63 : decode cX8_init 63 = .ok (.iconst 4, 1) := by decide +kernel
theorem dX8_init_64 : decode cX8_init 64 = .ok (.anewarray 26, 3) := by decide +kernel
theorem dX8_init_67 : decode cX8_init 67 = .ok (.putfield 39, 3) := by decide +kernel
theorem dX8_init_70 : decode cX8_init 70 = .ok (.aload_n 0, 1) := by decide +kernel
theorem dX8_init_71 : decode cX8_init 71 = .ok (.new 43, 3) := by decide +kernel
theorem dX8_init_74 : decode cX8_init 74 = .ok (.dup, 1) := by decide +kernel
theorem dX8_init_75 : decode cX8_init 75 = .ok (.aload_n 0, 1) := by decide +kernel
theorem dX8_init_76 : decode cX8_init 76 = .ok (.getfield 10, 3) := by decide +kernel
theorem dX8_init_79 : decode cX8_init 79 = .ok (.aload_n 0, 1) := by decide +kernel
theorem dX8_init_80 : decode cX8_init 80 = .ok (.getfield 33, 3) := by decide +kernel
theorem dX8_init_83 : decode cX8_init 83 = .ok (.invokespecial 45, 3) := by decide +kernel
theorem dX8_init_86 : decode cX8_init 86 = .ok (.putfield 48, 3) := by decide +kernel
theorem dX8_init_89 : decode cX8_init 89 = .ok (.aload_n 0, 1) := by decide +kernel
theorem dX8_init_90 : decode cX8_init 90 = .ok (.new 52, 3) := by decide +kernel
theorem dX8_init_93 : decode cX8_init 93 = .ok (.dup, 1) := by decide +kernel
theorem dX8_init_94 : decode cX8_init 94 = .ok (.aload_n 0, 1) := by decide +kernel
theorem dX8_init_95 : decode cX8_init 95 = .ok (.getfield 10, 3) := by decide +kernel
theorem dX8_init_98 : decode cX8_init 98 = .ok (.invokespecial 54, 3) := by decide +kernel
theorem dX8_init_101 : decode cX8_init 101 = .ok (.putfield 57, 3) := by decide +kernel
theorem dX8_init_104 : decode cX8_init 104 = .ok (.aload_n 0, 1) := by decide +kernel
theorem dX8_init_105 : decode cX8_init 105 = .ok (.new 61, 3) := by decide +kernel
theorem dX8_init_108 : decode cX8_init 108 = .ok (.dup, 1) := by decide +kernel
theorem dX8_init_109 : decode cX8_init 109 = .ok (.invokespecial 63, 3) := by decide +kernel
theorem dX8_init_112 : decode cX8_init 112 = .ok (.putfield 64, 3) := by decide +kernel
theorem dX8_init_115 : decode cX8_init 115 = .ok (.aload_n 0, 1) := by decide +kernel
theorem dX8_init_116 : decode cX8_init 116 = .ok (.bipush 80, 2) := by decide +kernel
theorem dX8_init_118 : decode cX8_init 118 = .ok (.newarray .int, 2) := by decide +kernel
theorem dX8_init_120 : decode cX8_init 120 = .ok (.putfield 70, 3) := by decide +kernel
theorem dX8_init_123 : decode cX8_init 123 = .ok (.return_, 1) := by decide +kernel
theorem dX8_feed_0 : decode cX8_feed 0 = .ok (.aload_n 0, 1) := by decide +kernel
theorem dX8_feed_1 : decode cX8_feed 1 = .ok (.getfield 10, 3) := by decide +kernel
theorem dX8_feed_4 : decode cX8_feed 4 = .ok (.iload_n 1, 1) := by decide +kernel
theorem dX8_feed_5 : decode cX8_feed 5 = .ok (.iload_n 2, 1) := by decide +kernel
theorem dX8_feed_6 : decode cX8_feed 6 = .ok (.iload_n 3, 1) := by decide +kernel
theorem dX8_feed_7 : decode cX8_feed 7 = .ok (.iload 4, 2) := by decide +kernel
theorem dX8_feed_9 : decode cX8_feed 9 = .ok (.iload 5, 2) := by decide +kernel
theorem dX8_feed_11 : decode cX8_feed 11 = .ok (.invokevirtual 74, 3) := by decide +kernel
theorem dX8_feed_14 : decode cX8_feed 14 = .ok (.ireturn, 1) := by decide +kernel
theorem dX8_end_0 : decode cX8_end 0 = .ok (.aload_n 0, 1) := by decide +kernel
theorem dX8_end_1 : decode cX8_end 1 = .ok (.getfield 10, 3) := by decide +kernel
theorem dX8_end_4 : decode cX8_end 4 = .ok (.iload_n 1, 1) := by decide +kernel
theorem dX8_end_5 : decode cX8_end 5 = .ok (.invokevirtual 78, 3) := by decide +kernel
theorem dX8_end_8 : decode cX8_end 8 = .ok (.ireturn, 1) := by decide +kernel
theorem dX8_hall_0 : decode cX8_hall 0 = .ok (.aload_n 0, 1) := by decide +kernel
theorem dX8_hall_1 : decode cX8_hall 1 = .ok (.getfield 48, 3) := by decide +kernel
theorem dX8_hall_4 : decode cX8_hall 4 = .ok (.invokevirtual 82, 3) := by decide +kernel
theorem dX8_hall_7 : decode cX8_hall 7 = .ok (.aload_n 0, 1) := by decide +kernel
theorem dX8_hall_8 : decode cX8_hall 8 = .ok (.getfield 10, 3) := by decide +kernel
theorem dX8_hall_11 : decode cX8_hall 11 = .ok (.invokevirtual 85, 3) := by decide +kernel
theorem dX8_hall_14 : decode cX8_hall 14 = .ok (.aload_n 0, 1) := by decide +kernel
theorem dX8_hall_15 : decode cX8_hall 15 = .ok (.getfield 10, 3) := by decide +kernel
theorem dX8_hall_18 : decode cX8_hall 18 = .ok (.invokevirtual 88, 3) := by decide +kernel
theorem dX8_hall_21 : decode cX8_hall 21 = .ok (.ifCond .eq 14, 3) := by decide +kernel
theorem dX8_hall_24 : decode cX8_hall 24 = .ok (.bipush (-2), 2) := by decide +kernel
theorem dX8_hall_26 : decode cX8_hall 26 = .ok (.aload_n 0, 1) := by decide +kernel
theorem dX8_hall_27 : decode cX8_hall 27 = .ok (.getfield 10, 3) := by decide +kernel
theorem dX8_hall_30 : decode cX8_hall 30 = .ok (.getfield 92, 3) := by decide +kernel
theorem dX8_hall_33 : decode cX8_hall 33 = .ok (.isub, 1) := by decide +kernel
theorem dX8_hall_34 : decode cX8_hall 34 = .ok (.ireturn, 1) := by decide +kernel
theorem dX8_hall_35 : decode cX8_hall 35 = .ok (.aload_n 0, 1) := by decide +kernel
theorem dX8_hall_36 : decode cX8_hall 36 = .ok (.getfield 64, 3) := by decide +kernel
theorem dX8_hall_39 : decode cX8_hall 39 = .ok (.invokevirtual 95, 3) := by decide +kernel
theorem dX8_hall_42 : decode cX8_hall 42 = .ok (.aload_n 0, 1) := by decide +kernel
theorem dX8_hall_43 : decode cX8_hall 43 = .ok (.getfield 33, 3) := by decide +kernel
theorem dX8_hall_46 : decode cX8_hall 46 = .ok (.aload_n 0, 1) := by decide +kernel
theorem dX8_hall_47 : decode cX8_hall 47 = .ok (.getfield 29, 3) := by decide +kernel
theorem dX8_hall_50 : decode cX8_hall 50 = .ok (.getfield 98, 3) := by decide +kernel
theorem dX8_hall_53 : decode cX8_hall 53 = .ok (.putfield 98, 3) := by decide +kernel
theorem dX8_hall_56 : decode cX8_hall 56 = .ok (.aload_n 0, 1) := by decide +kernel
theorem dX8_hall_57 : decode cX8_hall 57 = .ok (.getfield 29, 3) := by decide +kernel
theorem dX8_hall_60 : decode cX8_hall 60 = .ok (.aload_n 0, 1) := by decide +kernel
theorem dX8_hall_61 : decode cX8_hall 61 = .ok (.getfield 33, 3) := by decide +kernel
theorem dX8_hall_64 : decode cX8_hall 64 = .ok (.invokevirtual 101, 3) := by decide +kernel
theorem dX8_hall_67 : decode cX8_hall 67 = .ok (.aload_n 0, 1) := by decide +kernel
theorem dX8_hall_68 : decode cX8_hall 68 = .ok (.getfield 29, 3) := by decide +kernel
theorem dX8_hall_71 : decode cX8_hall 71 = .ok (.getfield 105, 3) := by decide +kernel
theorem dX8_hall_74 : decode cX8_hall 74 = .ok (.getfield 109, 3) := by decide +kernel
theorem dX8_hall_77 : decode cX8_hall 77 = .ok (.ireturn, 1) := by decide +kernel
theorem dX8_law_0 : decode cX8_law 0 = .ok (.aload_n 0, 1) := by decide +kernel
theorem dX8_law_1 : decode cX8_law 1 = .ok (.getfield 22, 3) := by decide +kernel
theorem dX8_law_4 : decode cX8_law 4 = .ok (.bipush 6, 2) := by decide +kernel
theorem dX8_law_6 : decode cX8_law 6 = .ok (.if_icmp .lt 5, 3) := by decide +kernel
theorem dX8_law_9 : decode cX8_law 9 = .ok (.iconst (-1), 1) := by decide +kernel
theorem dX8_law_10 : decode cX8_law 10 = .ok (.ireturn, 1) := by decide +kernel
theorem dX8_law_11 : decode cX8_law 11 = .ok (.aload_n 0, 1) := by decide +kernel
theorem dX8_law_12 : decode cX8_law 12 = .ok (.getfield 57, 3) := by decide +kernel
theorem dX8_law_15 : decode cX8_law 15 = .ok (.invokevirtual 114, 3) := by decide +kernel
theorem dX8_law_18 : decode cX8_law 18 = .ok (.astore_n 1, 1) := by decide +kernel
theorem dX8_law_19 : decode cX8_law 19 = .ok (.aload_n 0, 1) := by decide +kernel
theorem dX8_law_20 : decode cX8_law 20 = .ok (.getfield 10, 3) := by decide +kernel
theorem dX8_law_23 : decode cX8_law 23 = .ok (.invokevirtual 85, 3) := by decide +kernel
theorem dX8_law_26 : decode cX8_law 26 = .ok (.aload_n 1, 1) := by decide +kernel
theorem dX8_law_27 : decode cX8_law 27 = .ok (.ifnonnull 14, 3) := by decide +kernel
theorem dX8_law_30 : decode cX8_law 30 = .ok (.bipush (-2), 2) := by decide +kernel
theorem dX8_law_32 : decode cX8_law 32 = .ok (.aload_n 0, 1) := by decide +kernel
theorem dX8_law_33 : decode cX8_law 33 = .ok (.getfield 10, 3) := by decide +kernel
theorem dX8_law_36 : decode cX8_law 36 = .ok (.getfield 92, 3) := by decide +kernel
theorem dX8_law_39 : decode cX8_law 39 = .ok (.isub, 1) := by decide +kernel
theorem dX8_law_40 : decode cX8_law 40 = .ok (.ireturn, 1) := by decide +kernel
theorem dX8_law_41 : decode cX8_law 41 = .ok (.aload_n 0, 1) := by decide +kernel
theorem dX8_law_42 : decode cX8_law 42 = .ok (.getfield 18, 3) := by decide +kernel
theorem dX8_law_45 : decode cX8_law 45 = .ok (.aload_n 0, 1) := by decide +kernel
theorem dX8_law_46 : decode cX8_law 46 = .ok (.getfield 22, 3) := by decide +kernel
theorem dX8_law_49 : decode cX8_law 49 = .ok (.aload_n 1, 1) := by decide +kernel
theorem dX8_law_50 : decode cX8_law 50 = .ok (.aastore, 1) := by decide +kernel
theorem dX8_law_51 : decode cX8_law 51 = .ok (.aload_n 0, 1) := by decide +kernel
theorem dX8_law_52 : decode cX8_law 52 = .ok (.dup, 1) := by decide +kernel
theorem dX8_law_53 : decode cX8_law 53 = .ok (.getfield 22, 3) := by decide +kernel
theorem dX8_law_56 : decode cX8_law 56 = .ok (.iconst 1, 1) := by decide +kernel
theorem dX8_law_57 : decode cX8_law 57 = .ok (.iadd, 1) := by decide +kernel
theorem dX8_law_58 : decode cX8_law 58 = .ok (.putfield 22, 3) := by decide +kernel
theorem dX8_law_61 : decode cX8_law 61 = .ok (.aload_n 0, 1) := by decide +kernel
theorem dX8_law_62 : decode cX8_law 62 = .ok (.getfield 22, 3) := by decide +kernel
theorem dX8_law_65 : decode cX8_law 65 = .ok (.iconst 1, 1) := by decide +kernel
theorem dX8_law_66 : decode cX8_law 66 = .ok (.isub, 1) := by decide +kernel
theorem dX8_law_67 : decode cX8_law 67 = .ok (.ireturn, 1) := by decide +kernel
theorem dX8_seat_0 : decode cX8_seat 0 = .ok (.aload_n 0, 1) := by decide +kernel
theorem dX8_seat_1 : decode cX8_seat 1 = .ok (.getfield 29, 3) := by decide +kernel
theorem dX8_seat_4 : decode cX8_seat 4 = .ok (.getfield 117, 3) := by decide +kernel
theorem dX8_seat_7 : decode cX8_seat 7 = .ok (.iload_n 1, 1) := by decide +kernel
theorem dX8_seat_8 : decode cX8_seat 8 = .ok (.iload_n 2, 1) := by decide +kernel
theorem dX8_seat_9 : decode cX8_seat 9 = .ok (.invokevirtual 121, 3) := by decide +kernel
theorem dX8_seat_12 : decode cX8_seat 12 = .ok (.istore 4, 2) := by decide +kernel
theorem dX8_seat_14 : decode cX8_seat 14 = .ok (.iload 4, 2) := by decide +kernel
theorem dX8_seat_16 : decode cX8_seat 16 = .ok (.iconst (-1), 1) := by decide +kernel
theorem dX8_seat_17 : decode cX8_seat 17 = .ok (.if_icmp .ne 5, 3) := by decide +kernel
theorem dX8_seat_20 : decode cX8_seat 20 = .ok (.iconst (-1), 1) := by decide +kernel
theorem dX8_seat_21 : decode cX8_seat 21 = .ok (.ireturn, 1) := by decide +kernel
theorem dX8_seat_22 : decode cX8_seat 22 = .ok (.iload_n 3, 1) := by decide +kernel
theorem dX8_seat_23 : decode cX8_seat 23 = .ok (.tableswitch 86 0 3 #[29, 40, 54, 72], 29) := by decide +kernel
theorem dX8_seat_52 : decode cX8_seat 52 = .ok (.aload_n 0, 1) := by decide +kernel
theorem dX8_seat_53 : decode cX8_seat 53 = .ok (.getfield 29, 3) := by decide +kernel
theorem dX8_seat_56 : decode cX8_seat 56 = .ok (.getfield 125, 3) := by decide +kernel
theorem dX8_seat_59 : decode cX8_seat 59 = .ok (.iload 4, 2) := by decide +kernel
theorem dX8_seat_61 : decode cX8_seat 61 = .ok (.iaload, 1) := by decide +kernel
theorem dX8_seat_62 : decode cX8_seat 62 = .ok (.ireturn, 1) := by decide +kernel
theorem dX8_seat_63 : decode cX8_seat 63 = .ok (.aload_n 0, 1) := by decide +kernel
theorem dX8_seat_64 : decode cX8_seat 64 = .ok (.getfield 29, 3) := by decide +kernel
theorem dX8_seat_67 : decode cX8_seat 67 = .ok (.getfield 105, 3) := by decide +kernel
theorem dX8_seat_70 : decode cX8_seat 70 = .ok (.getfield 128, 3) := by decide +kernel
theorem dX8_seat_73 : decode cX8_seat 73 = .ok (.iload 4, 2) := by decide +kernel
theorem dX8_seat_75 : decode cX8_seat 75 = .ok (.iaload, 1) := by decide +kernel
theorem dX8_seat_76 : decode cX8_seat 76 = .ok (.ireturn, 1) := by decide +kernel
theorem dX8_seat_77 : decode cX8_seat 77 = .ok (.aload_n 0, 1) := by decide +kernel
theorem dX8_seat_78 : decode cX8_seat 78 = .ok (.getfield 29, 3) := by decide +kernel
theorem dX8_seat_81 : decode cX8_seat 81 = .ok (.getfield 131, 3) := by decide +kernel
theorem dX8_seat_84 : decode cX8_seat 84 = .ok (.iload 4, 2) := by decide +kernel
theorem dX8_seat_86 : decode cX8_seat 86 = .ok (.if_icmp .ne 7, 3) := by decide +kernel
theorem dX8_seat_89 : decode cX8_seat 89 = .ok (.iconst 1, 1) := by decide +kernel
theorem dX8_seat_90 : decode cX8_seat 90 = .ok (.goto 4, 3) := by decide +kernel
theorem dX8_seat_93 : decode cX8_seat 93 = .ok (.iconst 0, 1) := by decide +kernel
theorem dX8_seat_94 : decode cX8_seat 94 = .ok (.ireturn, 1) := by decide +kernel
theorem dX8_seat_95 : decode cX8_seat 95 = .ok (.aload_n 0, 1) := by decide +kernel
theorem dX8_seat_96 : decode cX8_seat 96 = .ok (.getfield 29, 3) := by decide +kernel
theorem dX8_seat_99 : decode cX8_seat 99 = .ok (.getfield 117, 3) := by decide +kernel
theorem dX8_seat_102 : decode cX8_seat 102 = .ok (.getfield 134, 3) := by decide +kernel
theorem dX8_seat_105 : decode cX8_seat 105 = .ok (.iload 4, 2) := by decide +kernel
theorem dX8_seat_107 : decode cX8_seat 107 = .ok (.iaload, 1) := by decide +kernel
theorem dX8_seat_108 : decode cX8_seat 108 = .ok (.ireturn, 1) := by decide +kernel
theorem dX8_seat_109 : decode cX8_seat 109 = .ok (.iconst (-1), 1) := by decide +kernel
theorem dX8_seat_110 : decode cX8_seat 110 = .ok (.ireturn, 1) := by decide +kernel
theorem dX8_guest_0 : decode cX8_guest 0 = .ok (.aload_n 0, 1) := by decide +kernel
theorem dX8_guest_1 : decode cX8_guest 1 = .ok (.getfield 29, 3) := by decide +kernel
theorem dX8_guest_4 : decode cX8_guest 4 = .ok (.getfield 105, 3) := by decide +kernel
theorem dX8_guest_7 : decode cX8_guest 7 = .ok (.astore_n 3, 1) := by decide +kernel
theorem dX8_guest_8 : decode cX8_guest 8 = .ok (.aload_n 3, 1) := by decide +kernel
theorem dX8_guest_9 : decode cX8_guest 9 = .ok (.iload_n 1, 1) := by decide +kernel
theorem dX8_guest_10 : decode cX8_guest 10 = .ok (.invokevirtual 137, 3) := by decide +kernel
theorem dX8_guest_13 : decode cX8_guest 13 = .ok (.ifCond .ne 5, 3) := by decide +kernel
theorem dX8_guest_16 : decode cX8_guest 16 = .ok (.iconst (-1), 1) := by decide +kernel
theorem dX8_guest_17 : decode cX8_guest 17 = .ok (.ireturn, 1) := by decide +kernel
theorem dX8_guest_18 : decode cX8_guest 18 = .ok (.iload_n 2, 1) := by decide +kernel
theorem dX8_guest_19 : decode cX8_guest 19 = .ok (.tableswitch 88 0 4 #[33, 50, 67, 74, 81], 33) := by decide +kernel
theorem dX8_guest_52 : decode cX8_guest 52 = .ok (.aload_n 0, 1) := by decide +kernel
theorem dX8_guest_53 : decode cX8_guest 53 = .ok (.getfield 29, 3) := by decide +kernel
theorem dX8_guest_56 : decode cX8_guest 56 = .ok (.getfield 117, 3) := by decide +kernel
theorem dX8_guest_59 : decode cX8_guest 59 = .ok (.aload_n 3, 1) := by decide +kernel
theorem dX8_guest_60 : decode cX8_guest 60 = .ok (.getfield 141, 3) := by decide +kernel
theorem dX8_guest_63 : decode cX8_guest 63 = .ok (.iload_n 1, 1) := by decide +kernel
theorem dX8_guest_64 : decode cX8_guest 64 = .ok (.iaload, 1) := by decide +kernel
theorem dX8_guest_65 : decode cX8_guest 65 = .ok (.invokevirtual 144, 3) := by decide +kernel
theorem dX8_guest_68 : decode cX8_guest 68 = .ok (.ireturn, 1) := by decide +kernel
theorem dX8_guest_69 : decode cX8_guest 69 = .ok (.aload_n 0, 1) := by decide +kernel
theorem dX8_guest_70 : decode cX8_guest 70 = .ok (.getfield 29, 3) := by decide +kernel
theorem dX8_guest_73 : decode cX8_guest 73 = .ok (.getfield 117, 3) := by decide +kernel
theorem dX8_guest_76 : decode cX8_guest 76 = .ok (.aload_n 3, 1) := by decide +kernel
theorem dX8_guest_77 : decode cX8_guest 77 = .ok (.getfield 141, 3) := by decide +kernel
theorem dX8_guest_80 : decode cX8_guest 80 = .ok (.iload_n 1, 1) := by decide +kernel
theorem dX8_guest_81 : decode cX8_guest 81 = .ok (.iaload, 1) := by decide +kernel
theorem dX8_guest_82 : decode cX8_guest 82 = .ok (.invokevirtual 147, 3) := by decide +kernel
theorem dX8_guest_85 : decode cX8_guest 85 = .ok (.ireturn, 1) := by decide +kernel
theorem dX8_guest_86 : decode cX8_guest 86 = .ok (.aload_n 3, 1) := by decide +kernel
theorem dX8_guest_87 : decode cX8_guest 87 = .ok (.getfield 150, 3) := by decide +kernel
theorem dX8_guest_90 : decode cX8_guest 90 = .ok (.iload_n 1, 1) := by decide +kernel
theorem dX8_guest_91 : decode cX8_guest 91 = .ok (.iaload, 1) := by decide +kernel
theorem dX8_guest_92 : decode cX8_guest 92 = .ok (.ireturn, 1) := by decide +kernel
theorem dX8_guest_93 : decode cX8_guest 93 = .ok (.aload_n 3, 1) := by decide +kernel
theorem dX8_guest_94 : decode cX8_guest 94 = .ok (.getfield 153, 3) := by decide +kernel
theorem dX8_guest_97 : decode cX8_guest 97 = .ok (.iload_n 1, 1) := by decide +kernel
theorem dX8_guest_98 : decode cX8_guest 98 = .ok (.iaload, 1) := by decide +kernel
theorem dX8_guest_99 : decode cX8_guest 99 = .ok (.ireturn, 1) := by decide +kernel
theorem dX8_guest_100 : decode cX8_guest 100 = .ok (.aload_n 3, 1) := by decide +kernel
theorem dX8_guest_101 : decode cX8_guest 101 = .ok (.getfield 156, 3) := by decide +kernel
theorem dX8_guest_104 : decode cX8_guest 104 = .ok (.iload_n 1, 1) := by decide +kernel
theorem dX8_guest_105 : decode cX8_guest 105 = .ok (.iaload, 1) := by decide +kernel
theorem dX8_guest_106 : decode cX8_guest 106 = .ok (.ireturn, 1) := by decide +kernel
theorem dX8_guest_107 : decode cX8_guest 107 = .ok (.iconst (-1), 1) := by decide +kernel
theorem dX8_guest_108 : decode cX8_guest 108 = .ok (.ireturn, 1) := by decide +kernel
theorem dX8_fan_0 : decode cX8_fan 0 = .ok (.aload_n 0, 1) := by decide +kernel
theorem dX8_fan_1 : decode cX8_fan 1 = .ok (.getfield 29, 3) := by decide +kernel
theorem dX8_fan_4 : decode cX8_fan 4 = .ok (.getfield 117, 3) := by decide +kernel
theorem dX8_fan_7 : decode cX8_fan 7 = .ok (.astore_n 3, 1) := by decide +kernel
theorem dX8_fan_8 : decode cX8_fan 8 = .ok (.iload_n 1, 1) := by decide +kernel
theorem dX8_fan_9 : decode cX8_fan 9 = .ok (.ifCond .lt 11, 3) := by decide +kernel
theorem dX8_fan_12 : decode cX8_fan 12 = .ok (.iload_n 1, 1) := by decide +kernel
theorem dX8_fan_13 : decode cX8_fan 13 = .ok (.aload_n 3, 1) := by decide +kernel
theorem dX8_fan_14 : decode cX8_fan 14 = .ok (.getfield 159, 3) := by decide +kernel
theorem dX8_fan_17 : decode cX8_fan 17 = .ok (.if_icmp .lt 5, 3) := by decide +kernel
theorem dX8_fan_20 : decode cX8_fan 20 = .ok (.iconst (-1), 1) := by decide +kernel
theorem dX8_fan_21 : decode cX8_fan 21 = .ok (.ireturn, 1) := by decide +kernel
theorem dX8_fan_22 : decode cX8_fan 22 = .ok (.iload_n 2, 1) := by decide +kernel
theorem dX8_fan_23 : decode cX8_fan 23 = .ok (.tableswitch 65 0 3 #[29, 40, 51, 58], 29) := by decide +kernel
theorem dX8_fan_52 : decode cX8_fan 52 = .ok (.aload_n 3, 1) := by decide +kernel
theorem dX8_fan_53 : decode cX8_fan 53 = .ok (.aload_n 3, 1) := by decide +kernel
theorem dX8_fan_54 : decode cX8_fan 54 = .ok (.getfield 162, 3) := by decide +kernel
theorem dX8_fan_57 : decode cX8_fan 57 = .ok (.iload_n 1, 1) := by decide +kernel
theorem dX8_fan_58 : decode cX8_fan 58 = .ok (.iaload, 1) := by decide +kernel
theorem dX8_fan_59 : decode cX8_fan 59 = .ok (.invokevirtual 144, 3) := by decide +kernel
theorem dX8_fan_62 : decode cX8_fan 62 = .ok (.ireturn, 1) := by decide +kernel
theorem dX8_fan_63 : decode cX8_fan 63 = .ok (.aload_n 3, 1) := by decide +kernel
theorem dX8_fan_64 : decode cX8_fan 64 = .ok (.aload_n 3, 1) := by decide +kernel
theorem dX8_fan_65 : decode cX8_fan 65 = .ok (.getfield 162, 3) := by decide +kernel
theorem dX8_fan_68 : decode cX8_fan 68 = .ok (.iload_n 1, 1) := by decide +kernel
theorem dX8_fan_69 : decode cX8_fan 69 = .ok (.iaload, 1) := by decide +kernel
theorem dX8_fan_70 : decode cX8_fan 70 = .ok (.invokevirtual 147, 3) := by decide +kernel
theorem dX8_fan_73 : decode cX8_fan 73 = .ok (.ireturn, 1) := by decide +kernel
theorem dX8_fan_74 : decode cX8_fan 74 = .ok (.aload_n 3, 1) := by decide +kernel
theorem dX8_fan_75 : decode cX8_fan 75 = .ok (.getfield 165, 3) := by decide +kernel
theorem dX8_fan_78 : decode cX8_fan 78 = .ok (.iload_n 1, 1) := by decide +kernel
theorem dX8_fan_79 : decode cX8_fan 79 = .ok (.iaload, 1) := by decide +kernel
theorem dX8_fan_80 : decode cX8_fan 80 = .ok (.ireturn, 1) := by decide +kernel
theorem dX8_fan_81 : decode cX8_fan 81 = .ok (.aload_n 3, 1) := by decide +kernel
theorem dX8_fan_82 : decode cX8_fan 82 = .ok (.getfield 168, 3) := by decide +kernel
theorem dX8_fan_85 : decode cX8_fan 85 = .ok (.iload_n 1, 1) := by decide +kernel
theorem dX8_fan_86 : decode cX8_fan 86 = .ok (.iaload, 1) := by decide +kernel
theorem dX8_fan_87 : decode cX8_fan 87 = .ok (.ireturn, 1) := by decide +kernel
theorem dX8_fan_88 : decode cX8_fan 88 = .ok (.iconst (-1), 1) := by decide +kernel
theorem dX8_fan_89 : decode cX8_fan 89 = .ok (.ireturn, 1) := by decide +kernel
theorem dX8_sits_0 : decode cX8_sits 0 = .ok (.aload_n 0, 1) := by decide +kernel
theorem dX8_sits_1 : decode cX8_sits 1 = .ok (.getfield 29, 3) := by decide +kernel
theorem dX8_sits_4 : decode cX8_sits 4 = .ok (.getfield 117, 3) := by decide +kernel
theorem dX8_sits_7 : decode cX8_sits 7 = .ok (.iload_n 2, 1) := by decide +kernel
theorem dX8_sits_8 : decode cX8_sits 8 = .ok (.iload_n 3, 1) := by decide +kernel
theorem dX8_sits_9 : decode cX8_sits 9 = .ok (.invokevirtual 121, 3) := by decide +kernel
theorem dX8_sits_12 : decode cX8_sits 12 = .ok (.istore 4, 2) := by decide +kernel
theorem dX8_sits_14 : decode cX8_sits 14 = .ok (.aload_n 0, 1) := by decide +kernel
theorem dX8_sits_15 : decode cX8_sits 15 = .ok (.getfield 29, 3) := by decide +kernel
theorem dX8_sits_18 : decode cX8_sits 18 = .ok (.getfield 105, 3) := by decide +kernel
theorem dX8_sits_21 : decode cX8_sits 21 = .ok (.iload_n 1, 1) := by decide +kernel
theorem dX8_sits_22 : decode cX8_sits 22 = .ok (.invokevirtual 137, 3) := by decide +kernel
theorem dX8_sits_25 : decode cX8_sits 25 = .ok (.ifCond .eq 26, 3) := by decide +kernel
theorem dX8_sits_28 : decode cX8_sits 28 = .ok (.iload 4, 2) := by decide +kernel
theorem dX8_sits_30 : decode cX8_sits 30 = .ok (.iconst (-1), 1) := by decide +kernel
theorem dX8_sits_31 : decode cX8_sits 31 = .ok (.if_icmp .eq 20, 3) := by decide +kernel
theorem dX8_sits_34 : decode cX8_sits 34 = .ok (.aload_n 0, 1) := by decide +kernel
theorem dX8_sits_35 : decode cX8_sits 35 = .ok (.getfield 29, 3) := by decide +kernel
theorem dX8_sits_38 : decode cX8_sits 38 = .ok (.getfield 105, 3) := by decide +kernel
theorem dX8_sits_41 : decode cX8_sits 41 = .ok (.getfield 128, 3) := by decide +kernel
theorem dX8_sits_44 : decode cX8_sits 44 = .ok (.iload 4, 2) := by decide +kernel
theorem dX8_sits_46 : decode cX8_sits 46 = .ok (.iaload, 1) := by decide +kernel
theorem dX8_sits_47 : decode cX8_sits 47 = .ok (.iconst (-1), 1) := by decide +kernel
theorem dX8_sits_48 : decode cX8_sits 48 = .ok (.if_icmp .eq 5, 3) := by decide +kernel
theorem dX8_sits_51 : decode cX8_sits 51 = .ok (.iconst 0, 1) := by decide +kernel
theorem dX8_sits_52 : decode cX8_sits 52 = .ok (.ireturn, 1) := by decide +kernel
theorem dX8_sits_53 : decode cX8_sits 53 = .ok (.aload_n 0, 1) := by decide +kernel
theorem dX8_sits_54 : decode cX8_sits 54 = .ok (.getfield 64, 3) := by decide +kernel
theorem dX8_sits_57 : decode cX8_sits 57 = .ok (.invokevirtual 95, 3) := by decide +kernel
theorem dX8_sits_60 : decode cX8_sits 60 = .ok (.aload_n 0, 1) := by decide +kernel
theorem dX8_sits_61 : decode cX8_sits 61 = .ok (.getfield 29, 3) := by decide +kernel
theorem dX8_sits_64 : decode cX8_sits 64 = .ok (.getfield 105, 3) := by decide +kernel
theorem dX8_sits_67 : decode cX8_sits 67 = .ok (.iload_n 1, 1) := by decide +kernel
theorem dX8_sits_68 : decode cX8_sits 68 = .ok (.iload 4, 2) := by decide +kernel
theorem dX8_sits_70 : decode cX8_sits 70 = .ok (.invokevirtual 171, 3) := by decide +kernel
theorem dX8_sits_73 : decode cX8_sits 73 = .ok (.iconst 1, 1) := by decide +kernel
theorem dX8_sits_74 : decode cX8_sits 74 = .ok (.ireturn, 1) := by decide +kernel
theorem dX8_goes_0 : decode cX8_goes 0 = .ok (.aload_n 0, 1) := by decide +kernel
theorem dX8_goes_1 : decode cX8_goes 1 = .ok (.getfield 29, 3) := by decide +kernel
theorem dX8_goes_4 : decode cX8_goes 4 = .ok (.getfield 105, 3) := by decide +kernel
theorem dX8_goes_7 : decode cX8_goes 7 = .ok (.iload_n 1, 1) := by decide +kernel
theorem dX8_goes_8 : decode cX8_goes 8 = .ok (.invokevirtual 175, 3) := by decide +kernel
theorem dX8_goes_11 : decode cX8_goes 11 = .ok (.ifCond .ne 5, 3) := by decide +kernel
theorem dX8_goes_14 : decode cX8_goes 14 = .ok (.iconst 0, 1) := by decide +kernel
theorem dX8_goes_15 : decode cX8_goes 15 = .ok (.ireturn, 1) := by decide +kernel
theorem dX8_goes_16 : decode cX8_goes 16 = .ok (.aload_n 0, 1) := by decide +kernel
theorem dX8_goes_17 : decode cX8_goes 17 = .ok (.getfield 64, 3) := by decide +kernel
theorem dX8_goes_20 : decode cX8_goes 20 = .ok (.invokevirtual 95, 3) := by decide +kernel
theorem dX8_goes_23 : decode cX8_goes 23 = .ok (.aload_n 0, 1) := by decide +kernel
theorem dX8_goes_24 : decode cX8_goes 24 = .ok (.getfield 29, 3) := by decide +kernel
theorem dX8_goes_27 : decode cX8_goes 27 = .ok (.getfield 105, 3) := by decide +kernel
theorem dX8_goes_30 : decode cX8_goes 30 = .ok (.iload_n 1, 1) := by decide +kernel
theorem dX8_goes_31 : decode cX8_goes 31 = .ok (.invokevirtual 178, 3) := by decide +kernel
theorem dX8_goes_34 : decode cX8_goes 34 = .ok (.iconst 1, 1) := by decide +kernel
theorem dX8_goes_35 : decode cX8_goes 35 = .ok (.ireturn, 1) := by decide +kernel
theorem dX8_change_0 : decode cX8_change 0 = .ok (.aload_n 0, 1) := by decide +kernel
theorem dX8_change_1 : decode cX8_change 1 = .ok (.getfield 29, 3) := by decide +kernel
theorem dX8_change_4 : decode cX8_change 4 = .ok (.getfield 105, 3) := by decide +kernel
theorem dX8_change_7 : decode cX8_change 7 = .ok (.astore_n 3, 1) := by decide +kernel
theorem dX8_change_8 : decode cX8_change 8 = .ok (.iload_n 1, 1) := by decide +kernel
theorem dX8_change_9 : decode cX8_change 9 = .ok (.iload_n 2, 1) := by decide +kernel
theorem dX8_change_10 : decode cX8_change 10 = .ok (.if_icmp .eq 19, 3) := by decide +kernel
theorem dX8_change_13 : decode cX8_change 13 = .ok (.aload_n 3, 1) := by decide +kernel
theorem dX8_change_14 : decode cX8_change 14 = .ok (.iload_n 1, 1) := by decide +kernel
theorem dX8_change_15 : decode cX8_change 15 = .ok (.invokevirtual 175, 3) := by decide +kernel
theorem dX8_change_18 : decode cX8_change 18 = .ok (.ifCond .eq 11, 3) := by decide +kernel
theorem dX8_change_21 : decode cX8_change 21 = .ok (.aload_n 3, 1) := by decide +kernel
theorem dX8_change_22 : decode cX8_change 22 = .ok (.iload_n 2, 1) := by decide +kernel
theorem dX8_change_23 : decode cX8_change 23 = .ok (.invokevirtual 175, 3) := by decide +kernel
theorem dX8_change_26 : decode cX8_change 26 = .ok (.ifCond .ne 5, 3) := by decide +kernel
theorem dX8_change_29 : decode cX8_change 29 = .ok (.iconst 0, 1) := by decide +kernel
theorem dX8_change_30 : decode cX8_change 30 = .ok (.ireturn, 1) := by decide +kernel
theorem dX8_change_31 : decode cX8_change 31 = .ok (.aload_n 0, 1) := by decide +kernel
theorem dX8_change_32 : decode cX8_change 32 = .ok (.getfield 64, 3) := by decide +kernel
theorem dX8_change_35 : decode cX8_change 35 = .ok (.invokevirtual 95, 3) := by decide +kernel
theorem dX8_change_38 : decode cX8_change 38 = .ok (.aload_n 3, 1) := by decide +kernel
theorem dX8_change_39 : decode cX8_change 39 = .ok (.iload_n 1, 1) := by decide +kernel
theorem dX8_change_40 : decode cX8_change 40 = .ok (.iload_n 2, 1) := by decide +kernel
theorem dX8_change_41 : decode cX8_change 41 = .ok (.invokevirtual 182, 3) := by decide +kernel
theorem dX8_change_44 : decode cX8_change 44 = .ok (.iconst 1, 1) := by decide +kernel
theorem dX8_change_45 : decode cX8_change 45 = .ok (.ireturn, 1) := by decide +kernel
theorem dX8_warms_0 : decode cX8_warms 0 = .ok (.aload_n 0, 1) := by decide +kernel
theorem dX8_warms_1 : decode cX8_warms 1 = .ok (.getfield 29, 3) := by decide +kernel
theorem dX8_warms_4 : decode cX8_warms 4 = .ok (.getfield 105, 3) := by decide +kernel
theorem dX8_warms_7 : decode cX8_warms 7 = .ok (.iload_n 1, 1) := by decide +kernel
theorem dX8_warms_8 : decode cX8_warms 8 = .ok (.invokevirtual 137, 3) := by decide +kernel
theorem dX8_warms_11 : decode cX8_warms 11 = .ok (.ifCond .eq 13, 3) := by decide +kernel
theorem dX8_warms_14 : decode cX8_warms 14 = .ok (.iload_n 2, 1) := by decide +kernel
theorem dX8_warms_15 : decode cX8_warms 15 = .ok (.ifCond .lt 9, 3) := by decide +kernel
theorem dX8_warms_18 : decode cX8_warms 18 = .ok (.iload_n 2, 1) := by decide +kernel
theorem dX8_warms_19 : decode cX8_warms 19 = .ok (.bipush 99, 2) := by decide +kernel
theorem dX8_warms_21 : decode cX8_warms 21 = .ok (.if_icmp .le 5, 3) := by decide +kernel
theorem dX8_warms_24 : decode cX8_warms 24 = .ok (.iconst (-1), 1) := by decide +kernel
theorem dX8_warms_25 : decode cX8_warms 25 = .ok (.ireturn, 1) := by decide +kernel
theorem dX8_warms_26 : decode cX8_warms 26 = .ok (.aload_n 0, 1) := by decide +kernel
theorem dX8_warms_27 : decode cX8_warms 27 = .ok (.getfield 64, 3) := by decide +kernel
theorem dX8_warms_30 : decode cX8_warms 30 = .ok (.invokevirtual 95, 3) := by decide +kernel
theorem dX8_warms_33 : decode cX8_warms 33 = .ok (.aload_n 0, 1) := by decide +kernel
theorem dX8_warms_34 : decode cX8_warms 34 = .ok (.getfield 29, 3) := by decide +kernel
theorem dX8_warms_37 : decode cX8_warms 37 = .ok (.getfield 105, 3) := by decide +kernel
theorem dX8_warms_40 : decode cX8_warms 40 = .ok (.getfield 150, 3) := by decide +kernel
theorem dX8_warms_43 : decode cX8_warms 43 = .ok (.iload_n 1, 1) := by decide +kernel
theorem dX8_warms_44 : decode cX8_warms 44 = .ok (.iaload, 1) := by decide +kernel
theorem dX8_warms_45 : decode cX8_warms 45 = .ok (.istore_n 3, 1) := by decide +kernel
theorem dX8_warms_46 : decode cX8_warms 46 = .ok (.aload_n 0, 1) := by decide +kernel
theorem dX8_warms_47 : decode cX8_warms 47 = .ok (.getfield 29, 3) := by decide +kernel
theorem dX8_warms_50 : decode cX8_warms 50 = .ok (.getfield 105, 3) := by decide +kernel
theorem dX8_warms_53 : decode cX8_warms 53 = .ok (.getfield 150, 3) := by decide +kernel
theorem dX8_warms_56 : decode cX8_warms 56 = .ok (.iload_n 1, 1) := by decide +kernel
theorem dX8_warms_57 : decode cX8_warms 57 = .ok (.iload_n 2, 1) := by decide +kernel
theorem dX8_warms_58 : decode cX8_warms 58 = .ok (.iastore, 1) := by decide +kernel
theorem dX8_warms_59 : decode cX8_warms 59 = .ok (.iload_n 3, 1) := by decide +kernel
theorem dX8_warms_60 : decode cX8_warms 60 = .ok (.ireturn, 1) := by decide +kernel
theorem dX8_tick_0 : decode cX8_tick 0 = .ok (.aload_n 0, 1) := by decide +kernel
theorem dX8_tick_1 : decode cX8_tick 1 = .ok (.iload_n 1, 1) := by decide +kernel
theorem dX8_tick_2 : decode cX8_tick 2 = .ok (.iload_n 2, 1) := by decide +kernel
theorem dX8_tick_3 : decode cX8_tick 3 = .ok (.iconst 1, 1) := by decide +kernel
theorem dX8_tick_4 : decode cX8_tick 4 = .ok (.bipush 120, 2) := by decide +kernel
theorem dX8_tick_6 : decode cX8_tick 6 = .ok (.invokevirtual 185, 3) := by decide +kernel
theorem dX8_tick_9 : decode cX8_tick 9 = .ok (.astore_n 3, 1) := by decide +kernel
theorem dX8_tick_10 : decode cX8_tick 10 = .ok (.aload_n 3, 1) := by decide +kernel
theorem dX8_tick_11 : decode cX8_tick 11 = .ok (.ifnull 18, 3) := by decide +kernel
theorem dX8_tick_14 : decode cX8_tick 14 = .ok (.aload_n 0, 1) := by decide +kernel
theorem dX8_tick_15 : decode cX8_tick 15 = .ok (.getfield 29, 3) := by decide +kernel
theorem dX8_tick_18 : decode cX8_tick 18 = .ok (.getfield 189, 3) := by decide +kernel
theorem dX8_tick_21 : decode cX8_tick 21 = .ok (.iload_n 2, 1) := by decide +kernel
theorem dX8_tick_22 : decode cX8_tick 22 = .ok (.iadd, 1) := by decide +kernel
theorem dX8_tick_23 : decode cX8_tick 23 = .ok (.sipush 9999, 3) := by decide +kernel
theorem dX8_tick_26 : decode cX8_tick 26 = .ok (.if_icmp .le 5, 3) := by decide +kernel
theorem dX8_tick_29 : decode cX8_tick 29 = .ok (.iconst (-1), 1) := by decide +kernel
theorem dX8_tick_30 : decode cX8_tick 30 = .ok (.ireturn, 1) := by decide +kernel
theorem dX8_tick_31 : decode cX8_tick 31 = .ok (.aload_n 0, 1) := by decide +kernel
theorem dX8_tick_32 : decode cX8_tick 32 = .ok (.getfield 64, 3) := by decide +kernel
theorem dX8_tick_35 : decode cX8_tick 35 = .ok (.invokevirtual 95, 3) := by decide +kernel
theorem dX8_tick_38 : decode cX8_tick 38 = .ok (.aload_n 0, 1) := by decide +kernel
theorem dX8_tick_39 : decode cX8_tick 39 = .ok (.getfield 29, 3) := by decide +kernel
theorem dX8_tick_42 : decode cX8_tick 42 = .ok (.aload_n 3, 1) := by decide +kernel
theorem dX8_tick_43 : decode cX8_tick 43 = .ok (.iload_n 2, 1) := by decide +kernel
theorem dX8_tick_44 : decode cX8_tick 44 = .ok (.invokevirtual 192, 3) := by decide +kernel
theorem dX8_tick_47 : decode cX8_tick 47 = .ok (.aload_n 0, 1) := by decide +kernel
theorem dX8_tick_48 : decode cX8_tick 48 = .ok (.getfield 29, 3) := by decide +kernel
theorem dX8_tick_51 : decode cX8_tick 51 = .ok (.getfield 189, 3) := by decide +kernel
theorem dX8_tick_54 : decode cX8_tick 54 = .ok (.ireturn, 1) := by decide +kernel
theorem dX8_there_0 : decode cX8_there 0 = .ok (.aload_n 0, 1) := by decide +kernel
theorem dX8_there_1 : decode cX8_there 1 = .ok (.iload_n 1, 1) := by decide +kernel
theorem dX8_there_2 : decode cX8_there 2 = .ok (.iload_n 2, 1) := by decide +kernel
theorem dX8_there_3 : decode cX8_there 3 = .ok (.iconst 0, 1) := by decide +kernel
theorem dX8_there_4 : decode cX8_there 4 = .ok (.bipush 60, 2) := by decide +kernel
theorem dX8_there_6 : decode cX8_there 6 = .ok (.invokevirtual 185, 3) := by decide +kernel
theorem dX8_there_9 : decode cX8_there 9 = .ok (.astore 4, 2) := by decide +kernel
theorem dX8_there_11 : decode cX8_there 11 = .ok (.aload 4, 2) := by decide +kernel
theorem dX8_there_13 : decode cX8_there 13 = .ok (.ifnull 12, 3) := by decide +kernel
theorem dX8_there_16 : decode cX8_there 16 = .ok (.iload_n 3, 1) := by decide +kernel
theorem dX8_there_17 : decode cX8_there 17 = .ok (.ifCond .lt 8, 3) := by decide +kernel
theorem dX8_there_20 : decode cX8_there 20 = .ok (.iload_n 3, 1) := by decide +kernel
theorem dX8_there_21 : decode cX8_there 21 = .ok (.iconst 1, 1) := by decide +kernel
theorem dX8_there_22 : decode cX8_there 22 = .ok (.if_icmp .le 5, 3) := by decide +kernel
theorem dX8_there_25 : decode cX8_there 25 = .ok (.iconst (-1), 1) := by decide +kernel
theorem dX8_there_26 : decode cX8_there 26 = .ok (.ireturn, 1) := by decide +kernel
theorem dX8_there_27 : decode cX8_there 27 = .ok (.aload_n 0, 1) := by decide +kernel
theorem dX8_there_28 : decode cX8_there 28 = .ok (.aload 4, 2) := by decide +kernel
theorem dX8_there_30 : decode cX8_there 30 = .ok (.iload_n 2, 1) := by decide +kernel
theorem dX8_there_31 : decode cX8_there 31 = .ok (.invokevirtual 196, 3) := by decide +kernel
theorem dX8_there_34 : decode cX8_there 34 = .ok (.istore 5, 2) := by decide +kernel
theorem dX8_there_36 : decode cX8_there 36 = .ok (.iload_n 3, 1) := by decide +kernel
theorem dX8_there_37 : decode cX8_there 37 = .ok (.ifCond .ne 18, 3) := by decide +kernel
theorem dX8_there_40 : decode cX8_there 40 = .ok (.aload_n 0, 1) := by decide +kernel
theorem dX8_there_41 : decode cX8_there 41 = .ok (.getfield 29, 3) := by decide +kernel
theorem dX8_there_44 : decode cX8_there 44 = .ok (.getfield 117, 3) := by decide +kernel
theorem dX8_there_47 : decode cX8_there 47 = .ok (.iload 5, 2) := by decide +kernel
theorem dX8_there_49 : decode cX8_there 49 = .ok (.invokevirtual 144, 3) := by decide +kernel
theorem dX8_there_52 : decode cX8_there 52 = .ok (.goto 15, 3) := by decide +kernel
theorem dX8_there_55 : decode cX8_there 55 = .ok (.aload_n 0, 1) := by decide +kernel
theorem dX8_there_56 : decode cX8_there 56 = .ok (.getfield 29, 3) := by decide +kernel
theorem dX8_there_59 : decode cX8_there 59 = .ok (.getfield 117, 3) := by decide +kernel
theorem dX8_there_62 : decode cX8_there 62 = .ok (.iload 5, 2) := by decide +kernel
theorem dX8_there_64 : decode cX8_there 64 = .ok (.invokevirtual 147, 3) := by decide +kernel
theorem dX8_there_67 : decode cX8_there 67 = .ok (.ireturn, 1) := by decide +kernel
theorem dX8_deaf_0 : decode cX8_deaf 0 = .ok (.aload_n 0, 1) := by decide +kernel
theorem dX8_deaf_1 : decode cX8_deaf 1 = .ok (.iload_n 1, 1) := by decide +kernel
theorem dX8_deaf_2 : decode cX8_deaf 2 = .ok (.iload_n 2, 1) := by decide +kernel
theorem dX8_deaf_3 : decode cX8_deaf 3 = .ok (.iconst 0, 1) := by decide +kernel
theorem dX8_deaf_4 : decode cX8_deaf 4 = .ok (.bipush 60, 2) := by decide +kernel
theorem dX8_deaf_6 : decode cX8_deaf 6 = .ok (.invokevirtual 185, 3) := by decide +kernel
theorem dX8_deaf_9 : decode cX8_deaf 9 = .ok (.astore 4, 2) := by decide +kernel
theorem dX8_deaf_11 : decode cX8_deaf 11 = .ok (.aload 4, 2) := by decide +kernel
theorem dX8_deaf_13 : decode cX8_deaf 13 = .ok (.ifnull 17, 3) := by decide +kernel
theorem dX8_deaf_16 : decode cX8_deaf 16 = .ok (.aload_n 0, 1) := by decide +kernel
theorem dX8_deaf_17 : decode cX8_deaf 17 = .ok (.getfield 29, 3) := by decide +kernel
theorem dX8_deaf_20 : decode cX8_deaf 20 = .ok (.getfield 105, 3) := by decide +kernel
theorem dX8_deaf_23 : decode cX8_deaf 23 = .ok (.iload_n 3, 1) := by decide +kernel
theorem dX8_deaf_24 : decode cX8_deaf 24 = .ok (.invokevirtual 137, 3) := by decide +kernel
theorem dX8_deaf_27 : decode cX8_deaf 27 = .ok (.ifCond .ne 5, 3) := by decide +kernel
theorem dX8_deaf_30 : decode cX8_deaf 30 = .ok (.iconst (-1), 1) := by decide +kernel
theorem dX8_deaf_31 : decode cX8_deaf 31 = .ok (.ireturn, 1) := by decide +kernel
theorem dX8_deaf_32 : decode cX8_deaf 32 = .ok (.aload_n 0, 1) := by decide +kernel
theorem dX8_deaf_33 : decode cX8_deaf 33 = .ok (.aload 4, 2) := by decide +kernel
theorem dX8_deaf_35 : decode cX8_deaf 35 = .ok (.iload_n 2, 1) := by decide +kernel
theorem dX8_deaf_36 : decode cX8_deaf 36 = .ok (.invokevirtual 196, 3) := by decide +kernel
theorem dX8_deaf_39 : decode cX8_deaf 39 = .ok (.pop, 1) := by decide +kernel
theorem dX8_deaf_40 : decode cX8_deaf 40 = .ok (.aload_n 0, 1) := by decide +kernel
theorem dX8_deaf_41 : decode cX8_deaf 41 = .ok (.iload_n 3, 1) := by decide +kernel
theorem dX8_deaf_42 : decode cX8_deaf 42 = .ok (.invokevirtual 200, 3) := by decide +kernel
theorem dX8_deaf_45 : decode cX8_deaf 45 = .ok (.ireturn, 1) := by decide +kernel
theorem dX8_critic_0 : decode cX8_critic 0 = .ok (.aload_n 0, 1) := by decide +kernel
theorem dX8_critic_1 : decode cX8_critic 1 = .ok (.iload_n 1, 1) := by decide +kernel
theorem dX8_critic_2 : decode cX8_critic 2 = .ok (.iload_n 2, 1) := by decide +kernel
theorem dX8_critic_3 : decode cX8_critic 3 = .ok (.iconst 0, 1) := by decide +kernel
theorem dX8_critic_4 : decode cX8_critic 4 = .ok (.bipush 60, 2) := by decide +kernel
theorem dX8_critic_6 : decode cX8_critic 6 = .ok (.invokevirtual 185, 3) := by decide +kernel
theorem dX8_critic_9 : decode cX8_critic 9 = .ok (.astore 4, 2) := by decide +kernel
theorem dX8_critic_11 : decode cX8_critic 11 = .ok (.aload 4, 2) := by decide +kernel
theorem dX8_critic_13 : decode cX8_critic 13 = .ok (.ifnull 12, 3) := by decide +kernel
theorem dX8_critic_16 : decode cX8_critic 16 = .ok (.iload_n 3, 1) := by decide +kernel
theorem dX8_critic_17 : decode cX8_critic 17 = .ok (.ifCond .lt 8, 3) := by decide +kernel
theorem dX8_critic_20 : decode cX8_critic 20 = .ok (.iload_n 3, 1) := by decide +kernel
theorem dX8_critic_21 : decode cX8_critic 21 = .ok (.iconst 1, 1) := by decide +kernel
theorem dX8_critic_22 : decode cX8_critic 22 = .ok (.if_icmp .le 5, 3) := by decide +kernel
theorem dX8_critic_25 : decode cX8_critic 25 = .ok (.iconst (-1), 1) := by decide +kernel
theorem dX8_critic_26 : decode cX8_critic 26 = .ok (.ireturn, 1) := by decide +kernel
theorem dX8_critic_27 : decode cX8_critic 27 = .ok (.aload_n 0, 1) := by decide +kernel
theorem dX8_critic_28 : decode cX8_critic 28 = .ok (.getfield 29, 3) := by decide +kernel
theorem dX8_critic_31 : decode cX8_critic 31 = .ok (.getfield 105, 3) := by decide +kernel
theorem dX8_critic_34 : decode cX8_critic 34 = .ok (.getfield 109, 3) := by decide +kernel
theorem dX8_critic_37 : decode cX8_critic 37 = .ok (.ifCond .ne 6, 3) := by decide +kernel
theorem dX8_critic_40 : decode cX8_critic 40 = .ok (.bipush (-2), 2) := by decide +kernel
theorem dX8_critic_42 : decode cX8_critic 42 = .ok (.ireturn, 1) := by decide +kernel
theorem dX8_critic_43 : decode cX8_critic 43 = .ok (.aload_n 0, 1) := by decide +kernel
theorem dX8_critic_44 : decode cX8_critic 44 = .ok (.aload 4, 2) := by decide +kernel
theorem dX8_critic_46 : decode cX8_critic 46 = .ok (.iload_n 2, 1) := by decide +kernel
theorem dX8_critic_47 : decode cX8_critic 47 = .ok (.invokevirtual 196, 3) := by decide +kernel
theorem dX8_critic_50 : decode cX8_critic 50 = .ok (.pop, 1) := by decide +kernel
theorem dX8_critic_51 : decode cX8_critic 51 = .ok (.iconst 0, 1) := by decide +kernel
theorem dX8_critic_52 : decode cX8_critic 52 = .ok (.istore 5, 2) := by decide +kernel
theorem dX8_critic_54 : decode cX8_critic 54 = .ok (.iconst 1, 1) := by decide +kernel
theorem dX8_critic_55 : decode cX8_critic 55 = .ok (.istore 6, 2) := by decide +kernel
theorem dX8_critic_57 : decode cX8_critic 57 = .ok (.iload 6, 2) := by decide +kernel
theorem dX8_critic_59 : decode cX8_critic 59 = .ok (.aload_n 0, 1) := by decide +kernel
theorem dX8_critic_60 : decode cX8_critic 60 = .ok (.getfield 29, 3) := by decide +kernel
theorem dX8_critic_63 : decode cX8_critic 63 = .ok (.getfield 105, 3) := by decide +kernel
theorem dX8_critic_66 : decode cX8_critic 66 = .ok (.getfield 109, 3) := by decide +kernel
theorem dX8_critic_69 : decode cX8_critic 69 = .ok (.if_icmp .ge 28, 3) := by decide +kernel
theorem dX8_critic_72 : decode cX8_critic 72 = .ok (.aload_n 0, 1) := by decide +kernel
theorem dX8_critic_73 : decode cX8_critic 73 = .ok (.iload 6, 2) := by decide +kernel
theorem dX8_critic_75 : decode cX8_critic 75 = .ok (.invokevirtual 200, 3) := by decide +kernel
theorem dX8_critic_78 : decode cX8_critic 78 = .ok (.aload_n 0, 1) := by decide +kernel
theorem dX8_critic_79 : decode cX8_critic 79 = .ok (.iload 5, 2) := by decide +kernel
theorem dX8_critic_81 : decode cX8_critic 81 = .ok (.invokevirtual 200, 3) := by decide +kernel
theorem dX8_critic_84 : decode cX8_critic 84 = .ok (.if_icmp .le 7, 3) := by decide +kernel
theorem dX8_critic_87 : decode cX8_critic 87 = .ok (.iload 6, 2) := by decide +kernel
theorem dX8_critic_89 : decode cX8_critic 89 = .ok (.istore 5, 2) := by decide +kernel
theorem dX8_critic_91 : decode cX8_critic 91 = .ok (.iinc 6 1, 3) := by decide +kernel
theorem dX8_critic_94 : decode cX8_critic 94 = .ok (.goto (-37), 3) := by decide +kernel
theorem dX8_critic_97 : decode cX8_critic 97 = .ok (.iload_n 3, 1) := by decide +kernel
theorem dX8_critic_98 : decode cX8_critic 98 = .ok (.ifCond .ne 8, 3) := by decide +kernel
theorem dX8_critic_101 : decode cX8_critic 101 = .ok (.iload 5, 2) := by decide +kernel
theorem dX8_critic_103 : decode cX8_critic 103 = .ok (.goto 9, 3) := by decide +kernel
theorem dX8_critic_106 : decode cX8_critic 106 = .ok (.aload_n 0, 1) := by decide +kernel
theorem dX8_critic_107 : decode cX8_critic 107 = .ok (.iload 5, 2) := by decide +kernel
theorem dX8_critic_109 : decode cX8_critic 109 = .ok (.invokevirtual 200, 3) := by decide +kernel
theorem dX8_critic_112 : decode cX8_critic 112 = .ok (.ireturn, 1) := by decide +kernel
theorem dX8_seated_0 : decode cX8_seated 0 = .ok (.aload_n 0, 1) := by decide +kernel
theorem dX8_seated_1 : decode cX8_seated 1 = .ok (.iload_n 1, 1) := by decide +kernel
theorem dX8_seated_2 : decode cX8_seated 2 = .ok (.iload_n 2, 1) := by decide +kernel
theorem dX8_seated_3 : decode cX8_seated 3 = .ok (.iconst 0, 1) := by decide +kernel
theorem dX8_seated_4 : decode cX8_seated 4 = .ok (.bipush 30, 2) := by decide +kernel
theorem dX8_seated_6 : decode cX8_seated 6 = .ok (.invokevirtual 185, 3) := by decide +kernel
theorem dX8_seated_9 : decode cX8_seated 9 = .ok (.astore 5, 2) := by decide +kernel
theorem dX8_seated_11 : decode cX8_seated 11 = .ok (.aload 5, 2) := by decide +kernel
theorem dX8_seated_13 : decode cX8_seated 13 = .ok (.ifnull 28, 3) := by decide +kernel
theorem dX8_seated_16 : decode cX8_seated 16 = .ok (.aload_n 0, 1) := by decide +kernel
theorem dX8_seated_17 : decode cX8_seated 17 = .ok (.getfield 29, 3) := by decide +kernel
theorem dX8_seated_20 : decode cX8_seated 20 = .ok (.getfield 105, 3) := by decide +kernel
theorem dX8_seated_23 : decode cX8_seated 23 = .ok (.iload_n 3, 1) := by decide +kernel
theorem dX8_seated_24 : decode cX8_seated 24 = .ok (.invokevirtual 175, 3) := by decide +kernel
theorem dX8_seated_27 : decode cX8_seated 27 = .ok (.ifCond .eq 14, 3) := by decide +kernel
theorem dX8_seated_30 : decode cX8_seated 30 = .ok (.iload 4, 2) := by decide +kernel
theorem dX8_seated_32 : decode cX8_seated 32 = .ok (.ifCond .lt 9, 3) := by decide +kernel
theorem dX8_seated_35 : decode cX8_seated 35 = .ok (.iload 4, 2) := by decide +kernel
theorem dX8_seated_37 : decode cX8_seated 37 = .ok (.iconst 2, 1) := by decide +kernel
theorem dX8_seated_38 : decode cX8_seated 38 = .ok (.if_icmp .le 5, 3) := by decide +kernel
theorem dX8_seated_41 : decode cX8_seated 41 = .ok (.iconst (-1), 1) := by decide +kernel
theorem dX8_seated_42 : decode cX8_seated 42 = .ok (.ireturn, 1) := by decide +kernel
theorem dX8_seated_43 : decode cX8_seated 43 = .ok (.aload_n 0, 1) := by decide +kernel
theorem dX8_seated_44 : decode cX8_seated 44 = .ok (.getfield 64, 3) := by decide +kernel
theorem dX8_seated_47 : decode cX8_seated 47 = .ok (.iconst 1, 1) := by decide +kernel
theorem dX8_seated_48 : decode cX8_seated 48 = .ok (.iload_n 1, 1) := by decide +kernel
theorem dX8_seated_49 : decode cX8_seated 49 = .ok (.iload_n 2, 1) := by decide +kernel
theorem dX8_seated_50 : decode cX8_seated 50 = .ok (.iload_n 3, 1) := by decide +kernel
theorem dX8_seated_51 : decode cX8_seated 51 = .ok (.iconst 0, 1) := by decide +kernel
theorem dX8_seated_52 : decode cX8_seated 52 = .ok (.invokevirtual 203, 3) := by decide +kernel
theorem dX8_seated_55 : decode cX8_seated 55 = .ok (.ifCond .ne 23, 3) := by decide +kernel
theorem dX8_seated_58 : decode cX8_seated 58 = .ok (.aload_n 0, 1) := by decide +kernel
theorem dX8_seated_59 : decode cX8_seated 59 = .ok (.getfield 64, 3) := by decide +kernel
theorem dX8_seated_62 : decode cX8_seated 62 = .ok (.iconst 1, 1) := by decide +kernel
theorem dX8_seated_63 : decode cX8_seated 63 = .ok (.iload_n 1, 1) := by decide +kernel
theorem dX8_seated_64 : decode cX8_seated 64 = .ok (.iload_n 2, 1) := by decide +kernel
theorem dX8_seated_65 : decode cX8_seated 65 = .ok (.iload_n 3, 1) := by decide +kernel
theorem dX8_seated_66 : decode cX8_seated 66 = .ok (.iconst 0, 1) := by decide +kernel
theorem dX8_seated_67 : decode cX8_seated 67 = .ok (.invokevirtual 207, 3) := by decide +kernel
theorem dX8_seated_70 : decode cX8_seated 70 = .ok (.aload_n 0, 1) := by decide +kernel
theorem dX8_seated_71 : decode cX8_seated 71 = .ok (.aload 5, 2) := by decide +kernel
theorem dX8_seated_73 : decode cX8_seated 73 = .ok (.iload_n 2, 1) := by decide +kernel
theorem dX8_seated_74 : decode cX8_seated 74 = .ok (.iload_n 3, 1) := by decide +kernel
theorem dX8_seated_75 : decode cX8_seated 75 = .ok (.invokevirtual 211, 3) := by decide +kernel
theorem dX8_seated_78 : decode cX8_seated 78 = .ok (.aload_n 0, 1) := by decide +kernel
theorem dX8_seated_79 : decode cX8_seated 79 = .ok (.getfield 64, 3) := by decide +kernel
theorem dX8_seated_82 : decode cX8_seated 82 = .ok (.iload 4, 2) := by decide +kernel
theorem dX8_seated_84 : decode cX8_seated 84 = .ok (.invokevirtual 215, 3) := by decide +kernel
theorem dX8_seated_87 : decode cX8_seated 87 = .ok (.ireturn, 1) := by decide +kernel
theorem dX8_changed_0 : decode cX8_changed 0 = .ok (.aload_n 0, 1) := by decide +kernel
theorem dX8_changed_1 : decode cX8_changed 1 = .ok (.iload_n 1, 1) := by decide +kernel
theorem dX8_changed_2 : decode cX8_changed 2 = .ok (.iload_n 2, 1) := by decide +kernel
theorem dX8_changed_3 : decode cX8_changed 3 = .ok (.iconst 0, 1) := by decide +kernel
theorem dX8_changed_4 : decode cX8_changed 4 = .ok (.bipush 30, 2) := by decide +kernel
theorem dX8_changed_6 : decode cX8_changed 6 = .ok (.invokevirtual 185, 3) := by decide +kernel
theorem dX8_changed_9 : decode cX8_changed 9 = .ok (.astore 4, 2) := by decide +kernel
theorem dX8_changed_11 : decode cX8_changed 11 = .ok (.aload_n 0, 1) := by decide +kernel
theorem dX8_changed_12 : decode cX8_changed 12 = .ok (.getfield 29, 3) := by decide +kernel
theorem dX8_changed_15 : decode cX8_changed 15 = .ok (.getfield 105, 3) := by decide +kernel
theorem dX8_changed_18 : decode cX8_changed 18 = .ok (.astore 5, 2) := by decide +kernel
theorem dX8_changed_20 : decode cX8_changed 20 = .ok (.aload 4, 2) := by decide +kernel
theorem dX8_changed_22 : decode cX8_changed 22 = .ok (.ifnull 12, 3) := by decide +kernel
theorem dX8_changed_25 : decode cX8_changed 25 = .ok (.aload 5, 2) := by decide +kernel
theorem dX8_changed_27 : decode cX8_changed 27 = .ok (.iload_n 3, 1) := by decide +kernel
theorem dX8_changed_28 : decode cX8_changed 28 = .ok (.invokevirtual 175, 3) := by decide +kernel
theorem dX8_changed_31 : decode cX8_changed 31 = .ok (.ifCond .ne 5, 3) := by decide +kernel
theorem dX8_changed_34 : decode cX8_changed 34 = .ok (.iconst (-1), 1) := by decide +kernel
theorem dX8_changed_35 : decode cX8_changed 35 = .ok (.ireturn, 1) := by decide +kernel
theorem dX8_changed_36 : decode cX8_changed 36 = .ok (.aload_n 0, 1) := by decide +kernel
theorem dX8_changed_37 : decode cX8_changed 37 = .ok (.getfield 36, 3) := by decide +kernel
theorem dX8_changed_40 : decode cX8_changed 40 = .ok (.aload_n 0, 1) := by decide +kernel
theorem dX8_changed_41 : decode cX8_changed 41 = .ok (.getfield 29, 3) := by decide +kernel
theorem dX8_changed_44 : decode cX8_changed 44 = .ok (.invokevirtual 101, 3) := by decide +kernel
theorem dX8_changed_47 : decode cX8_changed 47 = .ok (.iconst 0, 1) := by decide +kernel
theorem dX8_changed_48 : decode cX8_changed 48 = .ok (.istore 6, 2) := by decide +kernel
theorem dX8_changed_50 : decode cX8_changed 50 = .ok (.iload 6, 2) := by decide +kernel
theorem dX8_changed_52 : decode cX8_changed 52 = .ok (.aload 5, 2) := by decide +kernel
theorem dX8_changed_54 : decode cX8_changed 54 = .ok (.getfield 109, 3) := by decide +kernel
theorem dX8_changed_57 : decode cX8_changed 57 = .ok (.if_icmp .ge 110, 3) := by decide +kernel
theorem dX8_changed_60 : decode cX8_changed 60 = .ok (.iload 6, 2) := by decide +kernel
theorem dX8_changed_62 : decode cX8_changed 62 = .ok (.iconst 1, 1) := by decide +kernel
theorem dX8_changed_63 : decode cX8_changed 63 = .ok (.iadd, 1) := by decide +kernel
theorem dX8_changed_64 : decode cX8_changed 64 = .ok (.istore 7, 2) := by decide +kernel
theorem dX8_changed_66 : decode cX8_changed 66 = .ok (.iload 7, 2) := by decide +kernel
theorem dX8_changed_68 : decode cX8_changed 68 = .ok (.aload 5, 2) := by decide +kernel
theorem dX8_changed_70 : decode cX8_changed 70 = .ok (.getfield 109, 3) := by decide +kernel
theorem dX8_changed_73 : decode cX8_changed 73 = .ok (.if_icmp .ge 88, 3) := by decide +kernel
theorem dX8_changed_76 : decode cX8_changed 76 = .ok (.aload 5, 2) := by decide +kernel
theorem dX8_changed_78 : decode cX8_changed 78 = .ok (.iload 6, 2) := by decide +kernel
theorem dX8_changed_80 : decode cX8_changed 80 = .ok (.invokevirtual 175, 3) := by decide +kernel
theorem dX8_changed_83 : decode cX8_changed 83 = .ok (.ifCond .eq 72, 3) := by decide +kernel
theorem dX8_changed_86 : decode cX8_changed 86 = .ok (.aload 5, 2) := by decide +kernel
theorem dX8_changed_88 : decode cX8_changed 88 = .ok (.iload 7, 2) := by decide +kernel
theorem dX8_changed_90 : decode cX8_changed 90 = .ok (.invokevirtual 175, 3) := by decide +kernel
theorem dX8_changed_93 : decode cX8_changed 93 = .ok (.ifCond .eq 62, 3) := by decide +kernel
theorem dX8_changed_96 : decode cX8_changed 96 = .ok (.aload_n 0, 1) := by decide +kernel
theorem dX8_changed_97 : decode cX8_changed 97 = .ok (.getfield 36, 3) := by decide +kernel
theorem dX8_changed_100 : decode cX8_changed 100 = .ok (.aload_n 0, 1) := by decide +kernel
theorem dX8_changed_101 : decode cX8_changed 101 = .ok (.getfield 29, 3) := by decide +kernel
theorem dX8_changed_104 : decode cX8_changed 104 = .ok (.invokevirtual 218, 3) := by decide +kernel
theorem dX8_changed_107 : decode cX8_changed 107 = .ok (.aload_n 0, 1) := by decide +kernel
theorem dX8_changed_108 : decode cX8_changed 108 = .ok (.getfield 36, 3) := by decide +kernel
theorem dX8_changed_111 : decode cX8_changed 111 = .ok (.getfield 105, 3) := by decide +kernel
theorem dX8_changed_114 : decode cX8_changed 114 = .ok (.iload 6, 2) := by decide +kernel
theorem dX8_changed_116 : decode cX8_changed 116 = .ok (.iload 7, 2) := by decide +kernel
theorem dX8_changed_118 : decode cX8_changed 118 = .ok (.invokevirtual 182, 3) := by decide +kernel
theorem dX8_changed_121 : decode cX8_changed 121 = .ok (.aload_n 0, 1) := by decide +kernel
theorem dX8_changed_122 : decode cX8_changed 122 = .ok (.getfield 36, 3) := by decide +kernel
theorem dX8_changed_125 : decode cX8_changed 125 = .ok (.aload 4, 2) := by decide +kernel
theorem dX8_changed_127 : decode cX8_changed 127 = .ok (.iload_n 2, 1) := by decide +kernel
theorem dX8_changed_128 : decode cX8_changed 128 = .ok (.aload_n 0, 1) := by decide +kernel
theorem dX8_changed_129 : decode cX8_changed 129 = .ok (.getfield 36, 3) := by decide +kernel
theorem dX8_changed_132 : decode cX8_changed 132 = .ok (.getfield 105, 3) := by decide +kernel
theorem dX8_changed_135 : decode cX8_changed 135 = .ok (.getfield 141, 3) := by decide +kernel
theorem dX8_changed_138 : decode cX8_changed 138 = .ok (.iload_n 3, 1) := by decide +kernel
theorem dX8_changed_139 : decode cX8_changed 139 = .ok (.iaload, 1) := by decide +kernel
theorem dX8_changed_140 : decode cX8_changed 140 = .ok (.invokevirtual 221, 3) := by decide +kernel
theorem dX8_changed_143 : decode cX8_changed 143 = .ok (.ifCond .eq 12, 3) := by decide +kernel
theorem dX8_changed_146 : decode cX8_changed 146 = .ok (.bipush 16, 2) := by decide +kernel
theorem dX8_changed_148 : decode cX8_changed 148 = .ok (.iload 6, 2) := by decide +kernel
theorem dX8_changed_150 : decode cX8_changed 150 = .ok (.imul, 1) := by decide +kernel
theorem dX8_changed_151 : decode cX8_changed 151 = .ok (.iload 7, 2) := by decide +kernel
theorem dX8_changed_153 : decode cX8_changed 153 = .ok (.iadd, 1) := by decide +kernel
theorem dX8_changed_154 : decode cX8_changed 154 = .ok (.ireturn, 1) := by decide +kernel
theorem dX8_changed_155 : decode cX8_changed 155 = .ok (.iinc 7 1, 3) := by decide +kernel
theorem dX8_changed_158 : decode cX8_changed 158 = .ok (.goto (-92), 3) := by decide +kernel
theorem dX8_changed_161 : decode cX8_changed 161 = .ok (.iinc 6 1, 3) := by decide +kernel
theorem dX8_changed_164 : decode cX8_changed 164 = .ok (.goto (-114), 3) := by decide +kernel
theorem dX8_changed_167 : decode cX8_changed 167 = .ok (.bipush (-2), 2) := by decide +kernel
theorem dX8_changed_169 : decode cX8_changed 169 = .ok (.ireturn, 1) := by decide +kernel
theorem dX8_without_0 : decode cX8_without 0 = .ok (.aload_n 0, 1) := by decide +kernel
theorem dX8_without_1 : decode cX8_without 1 = .ok (.iload_n 1, 1) := by decide +kernel
theorem dX8_without_2 : decode cX8_without 2 = .ok (.iload_n 2, 1) := by decide +kernel
theorem dX8_without_3 : decode cX8_without 3 = .ok (.iconst 0, 1) := by decide +kernel
theorem dX8_without_4 : decode cX8_without 4 = .ok (.bipush 60, 2) := by decide +kernel
theorem dX8_without_6 : decode cX8_without 6 = .ok (.invokevirtual 185, 3) := by decide +kernel
theorem dX8_without_9 : decode cX8_without 9 = .ok (.astore 4, 2) := by decide +kernel
theorem dX8_without_11 : decode cX8_without 11 = .ok (.aload 4, 2) := by decide +kernel
theorem dX8_without_13 : decode cX8_without 13 = .ok (.ifnull 17, 3) := by decide +kernel
theorem dX8_without_16 : decode cX8_without 16 = .ok (.aload_n 0, 1) := by decide +kernel
theorem dX8_without_17 : decode cX8_without 17 = .ok (.getfield 29, 3) := by decide +kernel
theorem dX8_without_20 : decode cX8_without 20 = .ok (.getfield 105, 3) := by decide +kernel
theorem dX8_without_23 : decode cX8_without 23 = .ok (.iload_n 3, 1) := by decide +kernel
theorem dX8_without_24 : decode cX8_without 24 = .ok (.invokevirtual 175, 3) := by decide +kernel
theorem dX8_without_27 : decode cX8_without 27 = .ok (.ifCond .ne 5, 3) := by decide +kernel
theorem dX8_without_30 : decode cX8_without 30 = .ok (.iconst (-1), 1) := by decide +kernel
theorem dX8_without_31 : decode cX8_without 31 = .ok (.ireturn, 1) := by decide +kernel
theorem dX8_without_32 : decode cX8_without 32 = .ok (.aload_n 0, 1) := by decide +kernel
theorem dX8_without_33 : decode cX8_without 33 = .ok (.aload 4, 2) := by decide +kernel
theorem dX8_without_35 : decode cX8_without 35 = .ok (.iload_n 2, 1) := by decide +kernel
theorem dX8_without_36 : decode cX8_without 36 = .ok (.iload_n 3, 1) := by decide +kernel
theorem dX8_without_37 : decode cX8_without 37 = .ok (.aload_n 0, 1) := by decide +kernel
theorem dX8_without_38 : decode cX8_without 38 = .ok (.aload 4, 2) := by decide +kernel
theorem dX8_without_40 : decode cX8_without 40 = .ok (.iload_n 2, 1) := by decide +kernel
theorem dX8_without_41 : decode cX8_without 41 = .ok (.invokevirtual 196, 3) := by decide +kernel
theorem dX8_without_44 : decode cX8_without 44 = .ok (.invokevirtual 225, 3) := by decide +kernel
theorem dX8_without_47 : decode cX8_without 47 = .ok (.ireturn, 1) := by decide +kernel
theorem dX8_baron_0 : decode cX8_baron 0 = .ok (.aload_n 0, 1) := by decide +kernel
theorem dX8_baron_1 : decode cX8_baron 1 = .ok (.iload_n 1, 1) := by decide +kernel
theorem dX8_baron_2 : decode cX8_baron 2 = .ok (.iload_n 2, 1) := by decide +kernel
theorem dX8_baron_3 : decode cX8_baron 3 = .ok (.iconst 0, 1) := by decide +kernel
theorem dX8_baron_4 : decode cX8_baron 4 = .ok (.bipush 60, 2) := by decide +kernel
theorem dX8_baron_6 : decode cX8_baron 6 = .ok (.invokevirtual 185, 3) := by decide +kernel
theorem dX8_baron_9 : decode cX8_baron 9 = .ok (.astore 4, 2) := by decide +kernel
theorem dX8_baron_11 : decode cX8_baron 11 = .ok (.aload 4, 2) := by decide +kernel
theorem dX8_baron_13 : decode cX8_baron 13 = .ok (.ifnull 12, 3) := by decide +kernel
theorem dX8_baron_16 : decode cX8_baron 16 = .ok (.iload_n 3, 1) := by decide +kernel
theorem dX8_baron_17 : decode cX8_baron 17 = .ok (.ifCond .lt 8, 3) := by decide +kernel
theorem dX8_baron_20 : decode cX8_baron 20 = .ok (.iload_n 3, 1) := by decide +kernel
theorem dX8_baron_21 : decode cX8_baron 21 = .ok (.iconst 1, 1) := by decide +kernel
theorem dX8_baron_22 : decode cX8_baron 22 = .ok (.if_icmp .le 5, 3) := by decide +kernel
theorem dX8_baron_25 : decode cX8_baron 25 = .ok (.iconst (-1), 1) := by decide +kernel
theorem dX8_baron_26 : decode cX8_baron 26 = .ok (.ireturn, 1) := by decide +kernel
theorem dX8_baron_27 : decode cX8_baron 27 = .ok (.aload_n 0, 1) := by decide +kernel
theorem dX8_baron_28 : decode cX8_baron 28 = .ok (.aload 4, 2) := by decide +kernel
theorem dX8_baron_30 : decode cX8_baron 30 = .ok (.iload_n 2, 1) := by decide +kernel
theorem dX8_baron_31 : decode cX8_baron 31 = .ok (.invokevirtual 196, 3) := by decide +kernel
theorem dX8_baron_34 : decode cX8_baron 34 = .ok (.istore 5, 2) := by decide +kernel
theorem dX8_baron_36 : decode cX8_baron 36 = .ok (.bipush (-2), 2) := by decide +kernel
theorem dX8_baron_38 : decode cX8_baron 38 = .ok (.istore 6, 2) := by decide +kernel
theorem dX8_baron_40 : decode cX8_baron 40 = .ok (.bipush (-2), 2) := by decide +kernel
theorem dX8_baron_42 : decode cX8_baron 42 = .ok (.istore 7, 2) := by decide +kernel
theorem dX8_baron_44 : decode cX8_baron 44 = .ok (.iconst 0, 1) := by decide +kernel
theorem dX8_baron_45 : decode cX8_baron 45 = .ok (.istore 8, 2) := by decide +kernel
theorem dX8_baron_47 : decode cX8_baron 47 = .ok (.iload 8, 2) := by decide +kernel
theorem dX8_baron_49 : decode cX8_baron 49 = .ok (.aload_n 0, 1) := by decide +kernel
theorem dX8_baron_50 : decode cX8_baron 50 = .ok (.getfield 29, 3) := by decide +kernel
theorem dX8_baron_53 : decode cX8_baron 53 = .ok (.getfield 105, 3) := by decide +kernel
theorem dX8_baron_56 : decode cX8_baron 56 = .ok (.getfield 109, 3) := by decide +kernel
theorem dX8_baron_59 : decode cX8_baron 59 = .ok (.if_icmp .ge 52, 3) := by decide +kernel
theorem dX8_baron_62 : decode cX8_baron 62 = .ok (.aload_n 0, 1) := by decide +kernel
theorem dX8_baron_63 : decode cX8_baron 63 = .ok (.getfield 29, 3) := by decide +kernel
theorem dX8_baron_66 : decode cX8_baron 66 = .ok (.getfield 105, 3) := by decide +kernel
theorem dX8_baron_69 : decode cX8_baron 69 = .ok (.iload 8, 2) := by decide +kernel
theorem dX8_baron_71 : decode cX8_baron 71 = .ok (.invokevirtual 175, 3) := by decide +kernel
theorem dX8_baron_74 : decode cX8_baron 74 = .ok (.ifCond .eq 31, 3) := by decide +kernel
theorem dX8_baron_77 : decode cX8_baron 77 = .ok (.aload_n 0, 1) := by decide +kernel
theorem dX8_baron_78 : decode cX8_baron 78 = .ok (.aload 4, 2) := by decide +kernel
theorem dX8_baron_80 : decode cX8_baron 80 = .ok (.iload_n 2, 1) := by decide +kernel
theorem dX8_baron_81 : decode cX8_baron 81 = .ok (.iload 8, 2) := by decide +kernel
theorem dX8_baron_83 : decode cX8_baron 83 = .ok (.iload 5, 2) := by decide +kernel
theorem dX8_baron_85 : decode cX8_baron 85 = .ok (.invokevirtual 225, 3) := by decide +kernel
theorem dX8_baron_88 : decode cX8_baron 88 = .ok (.istore 9, 2) := by decide +kernel
theorem dX8_baron_90 : decode cX8_baron 90 = .ok (.iload 9, 2) := by decide +kernel
theorem dX8_baron_92 : decode cX8_baron 92 = .ok (.iload 7, 2) := by decide +kernel
theorem dX8_baron_94 : decode cX8_baron 94 = .ok (.if_icmp .le 11, 3) := by decide +kernel
theorem dX8_baron_97 : decode cX8_baron 97 = .ok (.iload 9, 2) := by decide +kernel
theorem dX8_baron_99 : decode cX8_baron 99 = .ok (.istore 7, 2) := by decide +kernel
theorem dX8_baron_101 : decode cX8_baron 101 = .ok (.iload 8, 2) := by decide +kernel
theorem dX8_baron_103 : decode cX8_baron 103 = .ok (.istore 6, 2) := by decide +kernel
theorem dX8_baron_105 : decode cX8_baron 105 = .ok (.iinc 8 1, 3) := by decide +kernel
theorem dX8_baron_108 : decode cX8_baron 108 = .ok (.goto (-61), 3) := by decide +kernel
theorem dX8_baron_111 : decode cX8_baron 111 = .ok (.iload_n 3, 1) := by decide +kernel
theorem dX8_baron_112 : decode cX8_baron 112 = .ok (.ifCond .ne 8, 3) := by decide +kernel
theorem dX8_baron_115 : decode cX8_baron 115 = .ok (.iload 6, 2) := by decide +kernel
theorem dX8_baron_117 : decode cX8_baron 117 = .ok (.goto 5, 3) := by decide +kernel
theorem dX8_baron_120 : decode cX8_baron 120 = .ok (.iload 7, 2) := by decide +kernel
theorem dX8_baron_122 : decode cX8_baron 122 = .ok (.ireturn, 1) := by decide +kernel
theorem dX8_led_0 : decode cX8_led 0 = .ok (.aload_n 0, 1) := by decide +kernel
theorem dX8_led_1 : decode cX8_led 1 = .ok (.iload_n 1, 1) := by decide +kernel
theorem dX8_led_2 : decode cX8_led 2 = .ok (.iload_n 2, 1) := by decide +kernel
theorem dX8_led_3 : decode cX8_led 3 = .ok (.iconst 0, 1) := by decide +kernel
theorem dX8_led_4 : decode cX8_led 4 = .ok (.bipush 60, 2) := by decide +kernel
theorem dX8_led_6 : decode cX8_led 6 = .ok (.invokevirtual 185, 3) := by decide +kernel
theorem dX8_led_9 : decode cX8_led 9 = .ok (.astore_n 3, 1) := by decide +kernel
theorem dX8_led_10 : decode cX8_led 10 = .ok (.aload_n 3, 1) := by decide +kernel
theorem dX8_led_11 : decode cX8_led 11 = .ok (.ifnonnull 5, 3) := by decide +kernel
theorem dX8_led_14 : decode cX8_led 14 = .ok (.iconst (-1), 1) := by decide +kernel
theorem dX8_led_15 : decode cX8_led 15 = .ok (.ireturn, 1) := by decide +kernel
theorem dX8_led_16 : decode cX8_led 16 = .ok (.aload_n 0, 1) := by decide +kernel
theorem dX8_led_17 : decode cX8_led 17 = .ok (.aload_n 3, 1) := by decide +kernel
theorem dX8_led_18 : decode cX8_led 18 = .ok (.iload_n 2, 1) := by decide +kernel
theorem dX8_led_19 : decode cX8_led 19 = .ok (.invokevirtual 196, 3) := by decide +kernel
theorem dX8_led_22 : decode cX8_led 22 = .ok (.istore 4, 2) := by decide +kernel
theorem dX8_led_24 : decode cX8_led 24 = .ok (.iconst 0, 1) := by decide +kernel
theorem dX8_led_25 : decode cX8_led 25 = .ok (.istore 5, 2) := by decide +kernel
theorem dX8_led_27 : decode cX8_led 27 = .ok (.iconst 0, 1) := by decide +kernel
theorem dX8_led_28 : decode cX8_led 28 = .ok (.istore 6, 2) := by decide +kernel
theorem dX8_led_30 : decode cX8_led 30 = .ok (.iload 6, 2) := by decide +kernel
theorem dX8_led_32 : decode cX8_led 32 = .ok (.aload_n 0, 1) := by decide +kernel
theorem dX8_led_33 : decode cX8_led 33 = .ok (.getfield 29, 3) := by decide +kernel
theorem dX8_led_36 : decode cX8_led 36 = .ok (.getfield 105, 3) := by decide +kernel
theorem dX8_led_39 : decode cX8_led 39 = .ok (.getfield 109, 3) := by decide +kernel
theorem dX8_led_42 : decode cX8_led 42 = .ok (.if_icmp .ge 46, 3) := by decide +kernel
theorem dX8_led_45 : decode cX8_led 45 = .ok (.aload_n 0, 1) := by decide +kernel
theorem dX8_led_46 : decode cX8_led 46 = .ok (.getfield 29, 3) := by decide +kernel
theorem dX8_led_49 : decode cX8_led 49 = .ok (.getfield 105, 3) := by decide +kernel
theorem dX8_led_52 : decode cX8_led 52 = .ok (.iload 6, 2) := by decide +kernel
theorem dX8_led_54 : decode cX8_led 54 = .ok (.invokevirtual 175, 3) := by decide +kernel
theorem dX8_led_57 : decode cX8_led 57 = .ok (.ifCond .eq 25, 3) := by decide +kernel
theorem dX8_led_60 : decode cX8_led 60 = .ok (.aload_n 0, 1) := by decide +kernel
theorem dX8_led_61 : decode cX8_led 61 = .ok (.aload_n 3, 1) := by decide +kernel
theorem dX8_led_62 : decode cX8_led 62 = .ok (.iload_n 2, 1) := by decide +kernel
theorem dX8_led_63 : decode cX8_led 63 = .ok (.iload 6, 2) := by decide +kernel
theorem dX8_led_65 : decode cX8_led 65 = .ok (.iload 4, 2) := by decide +kernel
theorem dX8_led_67 : decode cX8_led 67 = .ok (.invokevirtual 225, 3) := by decide +kernel
theorem dX8_led_70 : decode cX8_led 70 = .ok (.ifCond .le 12, 3) := by decide +kernel
theorem dX8_led_73 : decode cX8_led 73 = .ok (.iload 5, 2) := by decide +kernel
theorem dX8_led_75 : decode cX8_led 75 = .ok (.iconst 1, 1) := by decide +kernel
theorem dX8_led_76 : decode cX8_led 76 = .ok (.iload 6, 2) := by decide +kernel
theorem dX8_led_78 : decode cX8_led 78 = .ok (.ishl, 1) := by decide +kernel
theorem dX8_led_79 : decode cX8_led 79 = .ok (.ior, 1) := by decide +kernel
theorem dX8_led_80 : decode cX8_led 80 = .ok (.istore 5, 2) := by decide +kernel
theorem dX8_led_82 : decode cX8_led 82 = .ok (.iinc 6 1, 3) := by decide +kernel
theorem dX8_led_85 : decode cX8_led 85 = .ok (.goto (-55), 3) := by decide +kernel
theorem dX8_led_88 : decode cX8_led 88 = .ok (.iload 5, 2) := by decide +kernel
theorem dX8_led_90 : decode cX8_led 90 = .ok (.ireturn, 1) := by decide +kernel
theorem dX8_fanned_0 : decode cX8_fanned 0 = .ok (.aload_n 0, 1) := by decide +kernel
theorem dX8_fanned_1 : decode cX8_fanned 1 = .ok (.iload_n 1, 1) := by decide +kernel
theorem dX8_fanned_2 : decode cX8_fanned 2 = .ok (.iload_n 2, 1) := by decide +kernel
theorem dX8_fanned_3 : decode cX8_fanned 3 = .ok (.iconst 0, 1) := by decide +kernel
theorem dX8_fanned_4 : decode cX8_fanned 4 = .ok (.bipush 10, 2) := by decide +kernel
theorem dX8_fanned_6 : decode cX8_fanned 6 = .ok (.invokevirtual 185, 3) := by decide +kernel
theorem dX8_fanned_9 : decode cX8_fanned 9 = .ok (.astore 6, 2) := by decide +kernel
theorem dX8_fanned_11 : decode cX8_fanned 11 = .ok (.aload_n 0, 1) := by decide +kernel
theorem dX8_fanned_12 : decode cX8_fanned 12 = .ok (.getfield 29, 3) := by decide +kernel
theorem dX8_fanned_15 : decode cX8_fanned 15 = .ok (.getfield 117, 3) := by decide +kernel
theorem dX8_fanned_18 : decode cX8_fanned 18 = .ok (.iload_n 3, 1) := by decide +kernel
theorem dX8_fanned_19 : decode cX8_fanned 19 = .ok (.iload 4, 2) := by decide +kernel
theorem dX8_fanned_21 : decode cX8_fanned 21 = .ok (.invokevirtual 121, 3) := by decide +kernel
theorem dX8_fanned_24 : decode cX8_fanned 24 = .ok (.istore 7, 2) := by decide +kernel
theorem dX8_fanned_26 : decode cX8_fanned 26 = .ok (.aload 6, 2) := by decide +kernel
theorem dX8_fanned_28 : decode cX8_fanned 28 = .ok (.ifnull 20, 3) := by decide +kernel
theorem dX8_fanned_31 : decode cX8_fanned 31 = .ok (.iload 7, 2) := by decide +kernel
theorem dX8_fanned_33 : decode cX8_fanned 33 = .ok (.iconst (-1), 1) := by decide +kernel
theorem dX8_fanned_34 : decode cX8_fanned 34 = .ok (.if_icmp .eq 14, 3) := by decide +kernel
theorem dX8_fanned_37 : decode cX8_fanned 37 = .ok (.iload 5, 2) := by decide +kernel
theorem dX8_fanned_39 : decode cX8_fanned 39 = .ok (.ifCond .lt 9, 3) := by decide +kernel
theorem dX8_fanned_42 : decode cX8_fanned 42 = .ok (.iload 5, 2) := by decide +kernel
theorem dX8_fanned_44 : decode cX8_fanned 44 = .ok (.iconst 3, 1) := by decide +kernel
theorem dX8_fanned_45 : decode cX8_fanned 45 = .ok (.if_icmp .le 5, 3) := by decide +kernel
theorem dX8_fanned_48 : decode cX8_fanned 48 = .ok (.iconst (-1), 1) := by decide +kernel
theorem dX8_fanned_49 : decode cX8_fanned 49 = .ok (.ireturn, 1) := by decide +kernel
theorem dX8_fanned_50 : decode cX8_fanned 50 = .ok (.aload_n 0, 1) := by decide +kernel
theorem dX8_fanned_51 : decode cX8_fanned 51 = .ok (.getfield 64, 3) := by decide +kernel
theorem dX8_fanned_54 : decode cX8_fanned 54 = .ok (.iconst 2, 1) := by decide +kernel
theorem dX8_fanned_55 : decode cX8_fanned 55 = .ok (.iload_n 1, 1) := by decide +kernel
theorem dX8_fanned_56 : decode cX8_fanned 56 = .ok (.iload_n 2, 1) := by decide +kernel
theorem dX8_fanned_57 : decode cX8_fanned 57 = .ok (.iload 7, 2) := by decide +kernel
theorem dX8_fanned_59 : decode cX8_fanned 59 = .ok (.iconst 0, 1) := by decide +kernel
theorem dX8_fanned_60 : decode cX8_fanned 60 = .ok (.invokevirtual 203, 3) := by decide +kernel
theorem dX8_fanned_63 : decode cX8_fanned 63 = .ok (.ifCond .ne 25, 3) := by decide +kernel
theorem dX8_fanned_66 : decode cX8_fanned 66 = .ok (.aload_n 0, 1) := by decide +kernel
theorem dX8_fanned_67 : decode cX8_fanned 67 = .ok (.getfield 64, 3) := by decide +kernel
theorem dX8_fanned_70 : decode cX8_fanned 70 = .ok (.iconst 2, 1) := by decide +kernel
theorem dX8_fanned_71 : decode cX8_fanned 71 = .ok (.iload_n 1, 1) := by decide +kernel
theorem dX8_fanned_72 : decode cX8_fanned 72 = .ok (.iload_n 2, 1) := by decide +kernel
theorem dX8_fanned_73 : decode cX8_fanned 73 = .ok (.iload 7, 2) := by decide +kernel
theorem dX8_fanned_75 : decode cX8_fanned 75 = .ok (.iconst 0, 1) := by decide +kernel
theorem dX8_fanned_76 : decode cX8_fanned 76 = .ok (.invokevirtual 207, 3) := by decide +kernel
theorem dX8_fanned_79 : decode cX8_fanned 79 = .ok (.aload_n 0, 1) := by decide +kernel
theorem dX8_fanned_80 : decode cX8_fanned 80 = .ok (.aload 6, 2) := by decide +kernel
theorem dX8_fanned_82 : decode cX8_fanned 82 = .ok (.iload_n 2, 1) := by decide +kernel
theorem dX8_fanned_83 : decode cX8_fanned 83 = .ok (.iload 7, 2) := by decide +kernel
theorem dX8_fanned_85 : decode cX8_fanned 85 = .ok (.invokevirtual 229, 3) := by decide +kernel
theorem dX8_fanned_88 : decode cX8_fanned 88 = .ok (.aload_n 0, 1) := by decide +kernel
theorem dX8_fanned_89 : decode cX8_fanned 89 = .ok (.getfield 64, 3) := by decide +kernel
theorem dX8_fanned_92 : decode cX8_fanned 92 = .ok (.iload 5, 2) := by decide +kernel
theorem dX8_fanned_94 : decode cX8_fanned 94 = .ok (.invokevirtual 215, 3) := by decide +kernel
theorem dX8_fanned_97 : decode cX8_fanned 97 = .ok (.ireturn, 1) := by decide +kernel
theorem dX8_span_0 : decode cX8_span 0 = .ok (.aload_n 0, 1) := by decide +kernel
theorem dX8_span_1 : decode cX8_span 1 = .ok (.iload_n 1, 1) := by decide +kernel
theorem dX8_span_2 : decode cX8_span 2 = .ok (.iload_n 2, 1) := by decide +kernel
theorem dX8_span_3 : decode cX8_span 3 = .ok (.iconst 0, 1) := by decide +kernel
theorem dX8_span_4 : decode cX8_span 4 = .ok (.bipush 60, 2) := by decide +kernel
theorem dX8_span_6 : decode cX8_span 6 = .ok (.invokevirtual 185, 3) := by decide +kernel
theorem dX8_span_9 : decode cX8_span 9 = .ok (.astore 6, 2) := by decide +kernel
theorem dX8_span_11 : decode cX8_span 11 = .ok (.aload 6, 2) := by decide +kernel
theorem dX8_span_13 : decode cX8_span 13 = .ok (.ifnull 40, 3) := by decide +kernel
theorem dX8_span_16 : decode cX8_span 16 = .ok (.aload_n 0, 1) := by decide +kernel
theorem dX8_span_17 : decode cX8_span 17 = .ok (.getfield 29, 3) := by decide +kernel
theorem dX8_span_20 : decode cX8_span 20 = .ok (.getfield 105, 3) := by decide +kernel
theorem dX8_span_23 : decode cX8_span 23 = .ok (.iload_n 3, 1) := by decide +kernel
theorem dX8_span_24 : decode cX8_span 24 = .ok (.invokevirtual 175, 3) := by decide +kernel
theorem dX8_span_27 : decode cX8_span 27 = .ok (.ifCond .eq 26, 3) := by decide +kernel
theorem dX8_span_30 : decode cX8_span 30 = .ok (.iload 4, 2) := by decide +kernel
theorem dX8_span_32 : decode cX8_span 32 = .ok (.ifCond .lt 21, 3) := by decide +kernel
theorem dX8_span_35 : decode cX8_span 35 = .ok (.iload 4, 2) := by decide +kernel
theorem dX8_span_37 : decode cX8_span 37 = .ok (.bipush 20, 2) := by decide +kernel
theorem dX8_span_39 : decode cX8_span 39 = .ok (.if_icmp .gt 14, 3) := by decide +kernel
theorem dX8_span_42 : decode cX8_span 42 = .ok (.iload 5, 2) := by decide +kernel
theorem dX8_span_44 : decode cX8_span 44 = .ok (.ifCond .lt 9, 3) := by decide +kernel
theorem dX8_span_47 : decode cX8_span 47 = .ok (.iload 5, 2) := by decide +kernel
theorem dX8_span_49 : decode cX8_span 49 = .ok (.iconst 4, 1) := by decide +kernel
theorem dX8_span_50 : decode cX8_span 50 = .ok (.if_icmp .le 5, 3) := by decide +kernel
theorem dX8_span_53 : decode cX8_span 53 = .ok (.iconst (-1), 1) := by decide +kernel
theorem dX8_span_54 : decode cX8_span 54 = .ok (.ireturn, 1) := by decide +kernel
theorem dX8_span_55 : decode cX8_span 55 = .ok (.aload_n 0, 1) := by decide +kernel
theorem dX8_span_56 : decode cX8_span 56 = .ok (.getfield 64, 3) := by decide +kernel
theorem dX8_span_59 : decode cX8_span 59 = .ok (.iconst 3, 1) := by decide +kernel
theorem dX8_span_60 : decode cX8_span 60 = .ok (.iload_n 1, 1) := by decide +kernel
theorem dX8_span_61 : decode cX8_span 61 = .ok (.iload_n 2, 1) := by decide +kernel
theorem dX8_span_62 : decode cX8_span 62 = .ok (.iload_n 3, 1) := by decide +kernel
theorem dX8_span_63 : decode cX8_span 63 = .ok (.iload 4, 2) := by decide +kernel
theorem dX8_span_65 : decode cX8_span 65 = .ok (.invokevirtual 203, 3) := by decide +kernel
theorem dX8_span_68 : decode cX8_span 68 = .ok (.ifCond .ne 44, 3) := by decide +kernel
theorem dX8_span_71 : decode cX8_span 71 = .ok (.aload_n 0, 1) := by decide +kernel
theorem dX8_span_72 : decode cX8_span 72 = .ok (.getfield 64, 3) := by decide +kernel
theorem dX8_span_75 : decode cX8_span 75 = .ok (.iconst 3, 1) := by decide +kernel
theorem dX8_span_76 : decode cX8_span 76 = .ok (.iload_n 1, 1) := by decide +kernel
theorem dX8_span_77 : decode cX8_span 77 = .ok (.iload_n 2, 1) := by decide +kernel
theorem dX8_span_78 : decode cX8_span 78 = .ok (.iload_n 3, 1) := by decide +kernel
theorem dX8_span_79 : decode cX8_span 79 = .ok (.iload 4, 2) := by decide +kernel
theorem dX8_span_81 : decode cX8_span 81 = .ok (.invokevirtual 207, 3) := by decide +kernel
theorem dX8_span_84 : decode cX8_span 84 = .ok (.aload_n 0, 1) := by decide +kernel
theorem dX8_span_85 : decode cX8_span 85 = .ok (.aload 6, 2) := by decide +kernel
theorem dX8_span_87 : decode cX8_span 87 = .ok (.iload_n 2, 1) := by decide +kernel
theorem dX8_span_88 : decode cX8_span 88 = .ok (.iload_n 3, 1) := by decide +kernel
theorem dX8_span_89 : decode cX8_span 89 = .ok (.iload 4, 2) := by decide +kernel
theorem dX8_span_91 : decode cX8_span 91 = .ok (.invokevirtual 232, 3) := by decide +kernel
theorem dX8_span_94 : decode cX8_span 94 = .ok (.aload_n 0, 1) := by decide +kernel
theorem dX8_span_95 : decode cX8_span 95 = .ok (.getfield 64, 3) := by decide +kernel
theorem dX8_span_98 : decode cX8_span 98 = .ok (.aload_n 0, 1) := by decide +kernel
theorem dX8_span_99 : decode cX8_span 99 = .ok (.getfield 29, 3) := by decide +kernel
theorem dX8_span_102 : decode cX8_span 102 = .ok (.getfield 117, 3) := by decide +kernel
theorem dX8_span_105 : decode cX8_span 105 = .ok (.aload_n 0, 1) := by decide +kernel
theorem dX8_span_106 : decode cX8_span 106 = .ok (.getfield 70, 3) := by decide +kernel
theorem dX8_span_109 : decode cX8_span 109 = .ok (.invokevirtual 236, 3) := by decide +kernel
theorem dX8_span_112 : decode cX8_span 112 = .ok (.aload_n 0, 1) := by decide +kernel
theorem dX8_span_113 : decode cX8_span 113 = .ok (.getfield 64, 3) := by decide +kernel
theorem dX8_span_116 : decode cX8_span 116 = .ok (.iload 5, 2) := by decide +kernel
theorem dX8_span_118 : decode cX8_span 118 = .ok (.invokevirtual 215, 3) := by decide +kernel
theorem dX8_span_121 : decode cX8_span 121 = .ok (.ireturn, 1) := by decide +kernel
theorem dX8_spy_0 : decode cX8_spy 0 = .ok (.aload_n 0, 1) := by decide +kernel
theorem dX8_spy_1 : decode cX8_spy 1 = .ok (.iload_n 1, 1) := by decide +kernel
theorem dX8_spy_2 : decode cX8_spy 2 = .ok (.iload_n 2, 1) := by decide +kernel
theorem dX8_spy_3 : decode cX8_spy 3 = .ok (.iconst 0, 1) := by decide +kernel
theorem dX8_spy_4 : decode cX8_spy 4 = .ok (.bipush 30, 2) := by decide +kernel
theorem dX8_spy_6 : decode cX8_spy 6 = .ok (.invokevirtual 185, 3) := by decide +kernel
theorem dX8_spy_9 : decode cX8_spy 9 = .ok (.astore 6, 2) := by decide +kernel
theorem dX8_spy_11 : decode cX8_spy 11 = .ok (.aload_n 0, 1) := by decide +kernel
theorem dX8_spy_12 : decode cX8_spy 12 = .ok (.getfield 29, 3) := by decide +kernel
theorem dX8_spy_15 : decode cX8_spy 15 = .ok (.getfield 105, 3) := by decide +kernel
theorem dX8_spy_18 : decode cX8_spy 18 = .ok (.astore 7, 2) := by decide +kernel
theorem dX8_spy_20 : decode cX8_spy 20 = .ok (.aload 6, 2) := by decide +kernel
theorem dX8_spy_22 : decode cX8_spy 22 = .ok (.ifnull 40, 3) := by decide +kernel
theorem dX8_spy_25 : decode cX8_spy 25 = .ok (.aload 7, 2) := by decide +kernel
theorem dX8_spy_27 : decode cX8_spy 27 = .ok (.iload_n 3, 1) := by decide +kernel
theorem dX8_spy_28 : decode cX8_spy 28 = .ok (.invokevirtual 240, 3) := by decide +kernel
theorem dX8_spy_31 : decode cX8_spy 31 = .ok (.ifCond .eq 31, 3) := by decide +kernel
theorem dX8_spy_34 : decode cX8_spy 34 = .ok (.aload 7, 2) := by decide +kernel
theorem dX8_spy_36 : decode cX8_spy 36 = .ok (.iload 4, 2) := by decide +kernel
theorem dX8_spy_38 : decode cX8_spy 38 = .ok (.invokevirtual 240, 3) := by decide +kernel
theorem dX8_spy_41 : decode cX8_spy 41 = .ok (.ifCond .eq 21, 3) := by decide +kernel
theorem dX8_spy_44 : decode cX8_spy 44 = .ok (.iload_n 3, 1) := by decide +kernel
theorem dX8_spy_45 : decode cX8_spy 45 = .ok (.iload 4, 2) := by decide +kernel
theorem dX8_spy_47 : decode cX8_spy 47 = .ok (.iand, 1) := by decide +kernel
theorem dX8_spy_48 : decode cX8_spy 48 = .ok (.ifCond .ne 14, 3) := by decide +kernel
theorem dX8_spy_51 : decode cX8_spy 51 = .ok (.iload 5, 2) := by decide +kernel
theorem dX8_spy_53 : decode cX8_spy 53 = .ok (.ifCond .lt 9, 3) := by decide +kernel
theorem dX8_spy_56 : decode cX8_spy 56 = .ok (.iload 5, 2) := by decide +kernel
theorem dX8_spy_58 : decode cX8_spy 58 = .ok (.iconst 2, 1) := by decide +kernel
theorem dX8_spy_59 : decode cX8_spy 59 = .ok (.if_icmp .le 5, 3) := by decide +kernel
theorem dX8_spy_62 : decode cX8_spy 62 = .ok (.iconst (-1), 1) := by decide +kernel
theorem dX8_spy_63 : decode cX8_spy 63 = .ok (.ireturn, 1) := by decide +kernel
theorem dX8_spy_64 : decode cX8_spy 64 = .ok (.aload_n 0, 1) := by decide +kernel
theorem dX8_spy_65 : decode cX8_spy 65 = .ok (.getfield 36, 3) := by decide +kernel
theorem dX8_spy_68 : decode cX8_spy 68 = .ok (.aload_n 0, 1) := by decide +kernel
theorem dX8_spy_69 : decode cX8_spy 69 = .ok (.getfield 29, 3) := by decide +kernel
theorem dX8_spy_72 : decode cX8_spy 72 = .ok (.invokevirtual 101, 3) := by decide +kernel
theorem dX8_spy_75 : decode cX8_spy 75 = .ok (.iconst 1, 1) := by decide +kernel
theorem dX8_spy_76 : decode cX8_spy 76 = .ok (.istore 8, 2) := by decide +kernel
theorem dX8_spy_78 : decode cX8_spy 78 = .ok (.iload 8, 2) := by decide +kernel
theorem dX8_spy_80 : decode cX8_spy 80 = .ok (.iload_n 2, 1) := by decide +kernel
theorem dX8_spy_81 : decode cX8_spy 81 = .ok (.if_icmp .gt 110, 3) := by decide +kernel
theorem dX8_spy_84 : decode cX8_spy 84 = .ok (.aload_n 0, 1) := by decide +kernel
theorem dX8_spy_85 : decode cX8_spy 85 = .ok (.getfield 36, 3) := by decide +kernel
theorem dX8_spy_88 : decode cX8_spy 88 = .ok (.aload 6, 2) := by decide +kernel
theorem dX8_spy_90 : decode cX8_spy 90 = .ok (.invokevirtual 243, 3) := by decide +kernel
theorem dX8_spy_93 : decode cX8_spy 93 = .ok (.iconst 0, 1) := by decide +kernel
theorem dX8_spy_94 : decode cX8_spy 94 = .ok (.istore 9, 2) := by decide +kernel
theorem dX8_spy_96 : decode cX8_spy 96 = .ok (.iload 9, 2) := by decide +kernel
theorem dX8_spy_98 : decode cX8_spy 98 = .ok (.aload_n 0, 1) := by decide +kernel
theorem dX8_spy_99 : decode cX8_spy 99 = .ok (.getfield 29, 3) := by decide +kernel
theorem dX8_spy_102 : decode cX8_spy 102 = .ok (.getfield 117, 3) := by decide +kernel
theorem dX8_spy_105 : decode cX8_spy 105 = .ok (.getfield 247, 3) := by decide +kernel
theorem dX8_spy_108 : decode cX8_spy 108 = .ok (.if_icmp .ge 77, 3) := by decide +kernel
theorem dX8_spy_111 : decode cX8_spy 111 = .ok (.aload 7, 2) := by decide +kernel
theorem dX8_spy_113 : decode cX8_spy 113 = .ok (.getfield 128, 3) := by decide +kernel
theorem dX8_spy_116 : decode cX8_spy 116 = .ok (.iload 9, 2) := by decide +kernel
theorem dX8_spy_118 : decode cX8_spy 118 = .ok (.iaload, 1) := by decide +kernel
theorem dX8_spy_119 : decode cX8_spy 119 = .ok (.iconst (-1), 1) := by decide +kernel
theorem dX8_spy_120 : decode cX8_spy 120 = .ok (.if_icmp .ne 59, 3) := by decide +kernel
theorem dX8_spy_123 : decode cX8_spy 123 = .ok (.aload_n 0, 1) := by decide +kernel
theorem dX8_spy_124 : decode cX8_spy 124 = .ok (.iload 9, 2) := by decide +kernel
theorem dX8_spy_126 : decode cX8_spy 126 = .ok (.iload_n 3, 1) := by decide +kernel
theorem dX8_spy_127 : decode cX8_spy 127 = .ok (.iload 4, 2) := by decide +kernel
theorem dX8_spy_129 : decode cX8_spy 129 = .ok (.invokevirtual 249, 3) := by decide +kernel
theorem dX8_spy_132 : decode cX8_spy 132 = .ok (.ifCond .eq 47, 3) := by decide +kernel
theorem dX8_spy_135 : decode cX8_spy 135 = .ok (.iload 5, 2) := by decide +kernel
theorem dX8_spy_137 : decode cX8_spy 137 = .ok (.ifCond .ne 8, 3) := by decide +kernel
theorem dX8_spy_140 : decode cX8_spy 140 = .ok (.iload 8, 2) := by decide +kernel
theorem dX8_spy_142 : decode cX8_spy 142 = .ok (.goto 36, 3) := by decide +kernel
theorem dX8_spy_145 : decode cX8_spy 145 = .ok (.iload 5, 2) := by decide +kernel
theorem dX8_spy_147 : decode cX8_spy 147 = .ok (.iconst 1, 1) := by decide +kernel
theorem dX8_spy_148 : decode cX8_spy 148 = .ok (.if_icmp .ne 18, 3) := by decide +kernel
theorem dX8_spy_151 : decode cX8_spy 151 = .ok (.aload_n 0, 1) := by decide +kernel
theorem dX8_spy_152 : decode cX8_spy 152 = .ok (.getfield 29, 3) := by decide +kernel
theorem dX8_spy_155 : decode cX8_spy 155 = .ok (.getfield 117, 3) := by decide +kernel
theorem dX8_spy_158 : decode cX8_spy 158 = .ok (.iload 9, 2) := by decide +kernel
theorem dX8_spy_160 : decode cX8_spy 160 = .ok (.invokevirtual 144, 3) := by decide +kernel
theorem dX8_spy_163 : decode cX8_spy 163 = .ok (.goto 15, 3) := by decide +kernel
theorem dX8_spy_166 : decode cX8_spy 166 = .ok (.aload_n 0, 1) := by decide +kernel
theorem dX8_spy_167 : decode cX8_spy 167 = .ok (.getfield 29, 3) := by decide +kernel
theorem dX8_spy_170 : decode cX8_spy 170 = .ok (.getfield 117, 3) := by decide +kernel
theorem dX8_spy_173 : decode cX8_spy 173 = .ok (.iload 9, 2) := by decide +kernel
theorem dX8_spy_175 : decode cX8_spy 175 = .ok (.invokevirtual 147, 3) := by decide +kernel
theorem dX8_spy_178 : decode cX8_spy 178 = .ok (.ireturn, 1) := by decide +kernel
theorem dX8_spy_179 : decode cX8_spy 179 = .ok (.iinc 9 1, 3) := by decide +kernel
theorem dX8_spy_182 : decode cX8_spy 182 = .ok (.goto (-86), 3) := by decide +kernel
theorem dX8_spy_185 : decode cX8_spy 185 = .ok (.iinc 8 1, 3) := by decide +kernel
theorem dX8_spy_188 : decode cX8_spy 188 = .ok (.goto (-110), 3) := by decide +kernel
theorem dX8_spy_191 : decode cX8_spy 191 = .ok (.bipush (-2), 2) := by decide +kernel
theorem dX8_spy_193 : decode cX8_spy 193 = .ok (.ireturn, 1) := by decide +kernel
theorem dX8_seed_0 : decode cX8_seed 0 = .ok (.iload_n 1, 1) := by decide +kernel
theorem dX8_seed_1 : decode cX8_seed 1 = .ok (.ifCond .ge 5, 3) := by decide +kernel
theorem dX8_seed_4 : decode cX8_seed 4 = .ok (.iconst (-1), 1) := by decide +kernel
theorem dX8_seed_5 : decode cX8_seed 5 = .ok (.ireturn, 1) := by decide +kernel
theorem dX8_seed_6 : decode cX8_seed 6 = .ok (.aload_n 0, 1) := by decide +kernel
theorem dX8_seed_7 : decode cX8_seed 7 = .ok (.getfield 29, 3) := by decide +kernel
theorem dX8_seed_10 : decode cX8_seed 10 = .ok (.getfield 98, 3) := by decide +kernel
theorem dX8_seed_13 : decode cX8_seed 13 = .ok (.istore_n 2, 1) := by decide +kernel
theorem dX8_seed_14 : decode cX8_seed 14 = .ok (.aload_n 0, 1) := by decide +kernel
theorem dX8_seed_15 : decode cX8_seed 15 = .ok (.getfield 29, 3) := by decide +kernel
theorem dX8_seed_18 : decode cX8_seed 18 = .ok (.iload_n 1, 1) := by decide +kernel
theorem dX8_seed_19 : decode cX8_seed 19 = .ok (.putfield 98, 3) := by decide +kernel
theorem dX8_seed_22 : decode cX8_seed 22 = .ok (.iload_n 2, 1) := by decide +kernel
theorem dX8_seed_23 : decode cX8_seed 23 = .ok (.ireturn, 1) := by decide +kernel
theorem dX8_evenings_0 : decode cX8_evenings 0 = .ok (.aload_n 0, 1) := by decide +kernel
theorem dX8_evenings_1 : decode cX8_evenings 1 = .ok (.iload_n 1, 1) := by decide +kernel
theorem dX8_evenings_2 : decode cX8_evenings 2 = .ok (.iload_n 3, 1) := by decide +kernel
theorem dX8_evenings_3 : decode cX8_evenings 3 = .ok (.iconst 1, 1) := by decide +kernel
theorem dX8_evenings_4 : decode cX8_evenings 4 = .ok (.bipush 30, 2) := by decide +kernel
theorem dX8_evenings_6 : decode cX8_evenings 6 = .ok (.invokevirtual 185, 3) := by decide +kernel
theorem dX8_evenings_9 : decode cX8_evenings 9 = .ok (.astore 6, 2) := by decide +kernel
theorem dX8_evenings_11 : decode cX8_evenings 11 = .ok (.aload 6, 2) := by decide +kernel
theorem dX8_evenings_13 : decode cX8_evenings 13 = .ok (.ifnull 40, 3) := by decide +kernel
theorem dX8_evenings_16 : decode cX8_evenings 16 = .ok (.iload_n 2, 1) := by decide +kernel
theorem dX8_evenings_17 : decode cX8_evenings 17 = .ok (.iconst 1, 1) := by decide +kernel
theorem dX8_evenings_18 : decode cX8_evenings 18 = .ok (.if_icmp .lt 35, 3) := by decide +kernel
theorem dX8_evenings_21 : decode cX8_evenings 21 = .ok (.iload_n 2, 1) := by decide +kernel
theorem dX8_evenings_22 : decode cX8_evenings 22 = .ok (.bipush 10, 2) := by decide +kernel
theorem dX8_evenings_24 : decode cX8_evenings 24 = .ok (.if_icmp .gt 29, 3) := by decide +kernel
theorem dX8_evenings_27 : decode cX8_evenings 27 = .ok (.aload_n 0, 1) := by decide +kernel
theorem dX8_evenings_28 : decode cX8_evenings 28 = .ok (.getfield 29, 3) := by decide +kernel
theorem dX8_evenings_31 : decode cX8_evenings 31 = .ok (.getfield 105, 3) := by decide +kernel
theorem dX8_evenings_34 : decode cX8_evenings 34 = .ok (.iload 4, 2) := by decide +kernel
theorem dX8_evenings_36 : decode cX8_evenings 36 = .ok (.invokevirtual 137, 3) := by decide +kernel
theorem dX8_evenings_39 : decode cX8_evenings 39 = .ok (.ifCond .eq 14, 3) := by decide +kernel
theorem dX8_evenings_42 : decode cX8_evenings 42 = .ok (.iload 5, 2) := by decide +kernel
theorem dX8_evenings_44 : decode cX8_evenings 44 = .ok (.ifCond .lt 9, 3) := by decide +kernel
theorem dX8_evenings_47 : decode cX8_evenings 47 = .ok (.iload 5, 2) := by decide +kernel
theorem dX8_evenings_49 : decode cX8_evenings 49 = .ok (.iconst 2, 1) := by decide +kernel
theorem dX8_evenings_50 : decode cX8_evenings 50 = .ok (.if_icmp .le 5, 3) := by decide +kernel
theorem dX8_evenings_53 : decode cX8_evenings 53 = .ok (.iconst (-1), 1) := by decide +kernel
theorem dX8_evenings_54 : decode cX8_evenings 54 = .ok (.ireturn, 1) := by decide +kernel
theorem dX8_evenings_55 : decode cX8_evenings 55 = .ok (.iconst 0, 1) := by decide +kernel
theorem dX8_evenings_56 : decode cX8_evenings 56 = .ok (.istore 7, 2) := by decide +kernel
theorem dX8_evenings_58 : decode cX8_evenings 58 = .ok (.iconst 0, 1) := by decide +kernel
theorem dX8_evenings_59 : decode cX8_evenings 59 = .ok (.istore 8, 2) := by decide +kernel
theorem dX8_evenings_61 : decode cX8_evenings 61 = .ok (.iconst 0, 1) := by decide +kernel
theorem dX8_evenings_62 : decode cX8_evenings 62 = .ok (.istore 9, 2) := by decide +kernel
theorem dX8_evenings_64 : decode cX8_evenings 64 = .ok (.aload_n 0, 1) := by decide +kernel
theorem dX8_evenings_65 : decode cX8_evenings 65 = .ok (.getfield 36, 3) := by decide +kernel
theorem dX8_evenings_68 : decode cX8_evenings 68 = .ok (.aload_n 0, 1) := by decide +kernel
theorem dX8_evenings_69 : decode cX8_evenings 69 = .ok (.getfield 29, 3) := by decide +kernel
theorem dX8_evenings_72 : decode cX8_evenings 72 = .ok (.invokevirtual 101, 3) := by decide +kernel
theorem dX8_evenings_75 : decode cX8_evenings 75 = .ok (.iconst 0, 1) := by decide +kernel
theorem dX8_evenings_76 : decode cX8_evenings 76 = .ok (.istore 10, 2) := by decide +kernel
theorem dX8_evenings_78 : decode cX8_evenings 78 = .ok (.iload 10, 2) := by decide +kernel
theorem dX8_evenings_80 : decode cX8_evenings 80 = .ok (.iload_n 2, 1) := by decide +kernel
theorem dX8_evenings_81 : decode cX8_evenings 81 = .ok (.if_icmp .ge 94, 3) := by decide +kernel
theorem dX8_evenings_84 : decode cX8_evenings 84 = .ok (.aload_n 0, 1) := by decide +kernel
theorem dX8_evenings_85 : decode cX8_evenings 85 = .ok (.getfield 36, 3) := by decide +kernel
theorem dX8_evenings_88 : decode cX8_evenings 88 = .ok (.aload_n 0, 1) := by decide +kernel
theorem dX8_evenings_89 : decode cX8_evenings 89 = .ok (.getfield 29, 3) := by decide +kernel
theorem dX8_evenings_92 : decode cX8_evenings 92 = .ok (.invokevirtual 218, 3) := by decide +kernel
theorem dX8_evenings_95 : decode cX8_evenings 95 = .ok (.aload_n 0, 1) := by decide +kernel
theorem dX8_evenings_96 : decode cX8_evenings 96 = .ok (.getfield 36, 3) := by decide +kernel
theorem dX8_evenings_99 : decode cX8_evenings 99 = .ok (.invokevirtual 253, 3) := by decide +kernel
theorem dX8_evenings_102 : decode cX8_evenings 102 = .ok (.aload_n 0, 1) := by decide +kernel
theorem dX8_evenings_103 : decode cX8_evenings 103 = .ok (.getfield 36, 3) := by decide +kernel
theorem dX8_evenings_106 : decode cX8_evenings 106 = .ok (.aload 6, 2) := by decide +kernel
theorem dX8_evenings_108 : decode cX8_evenings 108 = .ok (.iload_n 3, 1) := by decide +kernel
theorem dX8_evenings_109 : decode cX8_evenings 109 = .ok (.invokevirtual 192, 3) := by decide +kernel
theorem dX8_evenings_112 : decode cX8_evenings 112 = .ok (.aload_n 0, 1) := by decide +kernel
theorem dX8_evenings_113 : decode cX8_evenings 113 = .ok (.getfield 36, 3) := by decide +kernel
theorem dX8_evenings_116 : decode cX8_evenings 116 = .ok (.getfield 105, 3) := by decide +kernel
theorem dX8_evenings_119 : decode cX8_evenings 119 = .ok (.getfield 128, 3) := by decide +kernel
theorem dX8_evenings_122 : decode cX8_evenings 122 = .ok (.aload_n 0, 1) := by decide +kernel
theorem dX8_evenings_123 : decode cX8_evenings 123 = .ok (.getfield 36, 3) := by decide +kernel
theorem dX8_evenings_126 : decode cX8_evenings 126 = .ok (.getfield 131, 3) := by decide +kernel
theorem dX8_evenings_129 : decode cX8_evenings 129 = .ok (.iaload, 1) := by decide +kernel
theorem dX8_evenings_130 : decode cX8_evenings 130 = .ok (.iload 4, 2) := by decide +kernel
theorem dX8_evenings_132 : decode cX8_evenings 132 = .ok (.if_icmp .ne 6, 3) := by decide +kernel
theorem dX8_evenings_135 : decode cX8_evenings 135 = .ok (.iinc 7 1, 3) := by decide +kernel
theorem dX8_evenings_138 : decode cX8_evenings 138 = .ok (.iload 8, 2) := by decide +kernel
theorem dX8_evenings_140 : decode cX8_evenings 140 = .ok (.aload_n 0, 1) := by decide +kernel
theorem dX8_evenings_141 : decode cX8_evenings 141 = .ok (.iload 4, 2) := by decide +kernel
theorem dX8_evenings_143 : decode cX8_evenings 143 = .ok (.invokevirtual 200, 3) := by decide +kernel
theorem dX8_evenings_146 : decode cX8_evenings 146 = .ok (.iadd, 1) := by decide +kernel
theorem dX8_evenings_147 : decode cX8_evenings 147 = .ok (.istore 8, 2) := by decide +kernel
theorem dX8_evenings_149 : decode cX8_evenings 149 = .ok (.iload 9, 2) := by decide +kernel
theorem dX8_evenings_151 : decode cX8_evenings 151 = .ok (.aload_n 0, 1) := by decide +kernel
theorem dX8_evenings_152 : decode cX8_evenings 152 = .ok (.getfield 36, 3) := by decide +kernel
theorem dX8_evenings_155 : decode cX8_evenings 155 = .ok (.getfield 256, 3) := by decide +kernel
theorem dX8_evenings_158 : decode cX8_evenings 158 = .ok (.aload_n 0, 1) := by decide +kernel
theorem dX8_evenings_159 : decode cX8_evenings 159 = .ok (.getfield 29, 3) := by decide +kernel
theorem dX8_evenings_162 : decode cX8_evenings 162 = .ok (.getfield 256, 3) := by decide +kernel
theorem dX8_evenings_165 : decode cX8_evenings 165 = .ok (.isub, 1) := by decide +kernel
theorem dX8_evenings_166 : decode cX8_evenings 166 = .ok (.iadd, 1) := by decide +kernel
theorem dX8_evenings_167 : decode cX8_evenings 167 = .ok (.istore 9, 2) := by decide +kernel
theorem dX8_evenings_169 : decode cX8_evenings 169 = .ok (.iinc 10 1, 3) := by decide +kernel
theorem dX8_evenings_172 : decode cX8_evenings 172 = .ok (.goto (-94), 3) := by decide +kernel
theorem dX8_evenings_175 : decode cX8_evenings 175 = .ok (.iload 5, 2) := by decide +kernel
theorem dX8_evenings_177 : decode cX8_evenings 177 = .ok (.ifCond .ne 8, 3) := by decide +kernel
theorem dX8_evenings_180 : decode cX8_evenings 180 = .ok (.iload 7, 2) := by decide +kernel
theorem dX8_evenings_182 : decode cX8_evenings 182 = .ok (.goto 16, 3) := by decide +kernel
theorem dX8_evenings_185 : decode cX8_evenings 185 = .ok (.iload 5, 2) := by decide +kernel
theorem dX8_evenings_187 : decode cX8_evenings 187 = .ok (.iconst 1, 1) := by decide +kernel
theorem dX8_evenings_188 : decode cX8_evenings 188 = .ok (.if_icmp .ne 8, 3) := by decide +kernel
theorem dX8_evenings_191 : decode cX8_evenings 191 = .ok (.iload 8, 2) := by decide +kernel
theorem dX8_evenings_193 : decode cX8_evenings 193 = .ok (.goto 5, 3) := by decide +kernel
theorem dX8_evenings_196 : decode cX8_evenings 196 = .ok (.iload 9, 2) := by decide +kernel
theorem dX8_evenings_198 : decode cX8_evenings 198 = .ok (.ireturn, 1) := by decide +kernel
theorem dX8_log_0 : decode cX8_log 0 = .ok (.iload_n 1, 1) := by decide +kernel
theorem dX8_log_1 : decode cX8_log 1 = .ok (.iconst 1, 1) := by decide +kernel
theorem dX8_log_2 : decode cX8_log 2 = .ok (.if_icmp .lt 23, 3) := by decide +kernel
theorem dX8_log_5 : decode cX8_log 5 = .ok (.iload_n 1, 1) := by decide +kernel
theorem dX8_log_6 : decode cX8_log 6 = .ok (.aload_n 0, 1) := by decide +kernel
theorem dX8_log_7 : decode cX8_log 7 = .ok (.getfield 29, 3) := by decide +kernel
theorem dX8_log_10 : decode cX8_log 10 = .ok (.invokevirtual 259, 3) := by decide +kernel
theorem dX8_log_13 : decode cX8_log 13 = .ok (.if_icmp .gt 12, 3) := by decide +kernel
theorem dX8_log_16 : decode cX8_log 16 = .ok (.iload_n 2, 1) := by decide +kernel
theorem dX8_log_17 : decode cX8_log 17 = .ok (.ifCond .lt 8, 3) := by decide +kernel
theorem dX8_log_20 : decode cX8_log 20 = .ok (.iload_n 2, 1) := by decide +kernel
theorem dX8_log_21 : decode cX8_log 21 = .ok (.iconst 1, 1) := by decide +kernel
theorem dX8_log_22 : decode cX8_log 22 = .ok (.if_icmp .le 5, 3) := by decide +kernel
theorem dX8_log_25 : decode cX8_log 25 = .ok (.iconst (-1), 1) := by decide +kernel
theorem dX8_log_26 : decode cX8_log 26 = .ok (.ireturn, 1) := by decide +kernel
theorem dX8_log_27 : decode cX8_log 27 = .ok (.aload_n 0, 1) := by decide +kernel
theorem dX8_log_28 : decode cX8_log 28 = .ok (.getfield 29, 3) := by decide +kernel
theorem dX8_log_31 : decode cX8_log 31 = .ok (.iload_n 1, 1) := by decide +kernel
theorem dX8_log_32 : decode cX8_log 32 = .ok (.invokevirtual 263, 3) := by decide +kernel
theorem dX8_log_35 : decode cX8_log 35 = .ok (.istore_n 3, 1) := by decide +kernel
theorem dX8_log_36 : decode cX8_log 36 = .ok (.iload_n 2, 1) := by decide +kernel
theorem dX8_log_37 : decode cX8_log 37 = .ok (.ifCond .ne 17, 3) := by decide +kernel
theorem dX8_log_40 : decode cX8_log 40 = .ok (.aload_n 0, 1) := by decide +kernel
theorem dX8_log_41 : decode cX8_log 41 = .ok (.getfield 29, 3) := by decide +kernel
theorem dX8_log_44 : decode cX8_log 44 = .ok (.getfield 117, 3) := by decide +kernel
theorem dX8_log_47 : decode cX8_log 47 = .ok (.iload_n 3, 1) := by decide +kernel
theorem dX8_log_48 : decode cX8_log 48 = .ok (.invokevirtual 144, 3) := by decide +kernel
theorem dX8_log_51 : decode cX8_log 51 = .ok (.goto 14, 3) := by decide +kernel
theorem dX8_log_54 : decode cX8_log 54 = .ok (.aload_n 0, 1) := by decide +kernel
theorem dX8_log_55 : decode cX8_log 55 = .ok (.getfield 29, 3) := by decide +kernel
theorem dX8_log_58 : decode cX8_log 58 = .ok (.getfield 117, 3) := by decide +kernel
theorem dX8_log_61 : decode cX8_log 61 = .ok (.iload_n 3, 1) := by decide +kernel
theorem dX8_log_62 : decode cX8_log 62 = .ok (.invokevirtual 147, 3) := by decide +kernel
theorem dX8_log_65 : decode cX8_log 65 = .ok (.ireturn, 1) := by decide +kernel
theorem dX8_hushed_0 : decode cX8_hushed 0 = .ok (.aload_n 0, 1) := by decide +kernel
theorem dX8_hushed_1 : decode cX8_hushed 1 = .ok (.getfield 29, 3) := by decide +kernel
theorem dX8_hushed_4 : decode cX8_hushed 4 = .ok (.getfield 117, 3) := by decide +kernel
theorem dX8_hushed_7 : decode cX8_hushed 7 = .ok (.iload_n 1, 1) := by decide +kernel
theorem dX8_hushed_8 : decode cX8_hushed 8 = .ok (.iload_n 2, 1) := by decide +kernel
theorem dX8_hushed_9 : decode cX8_hushed 9 = .ok (.invokevirtual 121, 3) := by decide +kernel
theorem dX8_hushed_12 : decode cX8_hushed 12 = .ok (.istore_n 3, 1) := by decide +kernel
theorem dX8_hushed_13 : decode cX8_hushed 13 = .ok (.iload_n 3, 1) := by decide +kernel
theorem dX8_hushed_14 : decode cX8_hushed 14 = .ok (.iconst (-1), 1) := by decide +kernel
theorem dX8_hushed_15 : decode cX8_hushed 15 = .ok (.if_icmp .ne 5, 3) := by decide +kernel
theorem dX8_hushed_18 : decode cX8_hushed 18 = .ok (.iconst (-1), 1) := by decide +kernel
theorem dX8_hushed_19 : decode cX8_hushed 19 = .ok (.ireturn, 1) := by decide +kernel
theorem dX8_hushed_20 : decode cX8_hushed 20 = .ok (.iconst 0, 1) := by decide +kernel
theorem dX8_hushed_21 : decode cX8_hushed 21 = .ok (.istore 4, 2) := by decide +kernel
theorem dX8_hushed_23 : decode cX8_hushed 23 = .ok (.iconst 1, 1) := by decide +kernel
theorem dX8_hushed_24 : decode cX8_hushed 24 = .ok (.istore 5, 2) := by decide +kernel
theorem dX8_hushed_26 : decode cX8_hushed 26 = .ok (.iload 5, 2) := by decide +kernel
theorem dX8_hushed_28 : decode cX8_hushed 28 = .ok (.aload_n 0, 1) := by decide +kernel
theorem dX8_hushed_29 : decode cX8_hushed 29 = .ok (.getfield 29, 3) := by decide +kernel
theorem dX8_hushed_32 : decode cX8_hushed 32 = .ok (.invokevirtual 259, 3) := by decide +kernel
theorem dX8_hushed_35 : decode cX8_hushed 35 = .ok (.if_icmp .gt 25, 3) := by decide +kernel
theorem dX8_hushed_38 : decode cX8_hushed 38 = .ok (.aload_n 0, 1) := by decide +kernel
theorem dX8_hushed_39 : decode cX8_hushed 39 = .ok (.getfield 29, 3) := by decide +kernel
theorem dX8_hushed_42 : decode cX8_hushed 42 = .ok (.iload 5, 2) := by decide +kernel
theorem dX8_hushed_44 : decode cX8_hushed 44 = .ok (.invokevirtual 263, 3) := by decide +kernel
theorem dX8_hushed_47 : decode cX8_hushed 47 = .ok (.iload_n 3, 1) := by decide +kernel
theorem dX8_hushed_48 : decode cX8_hushed 48 = .ok (.if_icmp .ne 6, 3) := by decide +kernel
theorem dX8_hushed_51 : decode cX8_hushed 51 = .ok (.iinc 4 1, 3) := by decide +kernel
theorem dX8_hushed_54 : decode cX8_hushed 54 = .ok (.iinc 5 1, 3) := by decide +kernel
theorem dX8_hushed_57 : decode cX8_hushed 57 = .ok (.goto (-31), 3) := by decide +kernel
theorem dX8_hushed_60 : decode cX8_hushed 60 = .ok (.iload 4, 2) := by decide +kernel
theorem dX8_hushed_62 : decode cX8_hushed 62 = .ok (.ireturn, 1) := by decide +kernel
theorem dX8_count_0 : decode cX8_count 0 = .ok (.iload_n 1, 1) := by decide +kernel
theorem dX8_count_1 : decode cX8_count 1 = .ok (.tableswitch 254 0 16 #[83, 94, 105, 116, 127, 138, 143, 151, 169, 187, 195, 203, 211, 219, 227, 235, 243], 83) := by decide +kernel
theorem dX8_count_84 : decode cX8_count 84 = .ok (.aload_n 0, 1) := by decide +kernel
theorem dX8_count_85 : decode cX8_count 85 = .ok (.getfield 29, 3) := by decide +kernel
theorem dX8_count_88 : decode cX8_count 88 = .ok (.getfield 117, 3) := by decide +kernel
theorem dX8_count_91 : decode cX8_count 91 = .ok (.getfield 266, 3) := by decide +kernel
theorem dX8_count_94 : decode cX8_count 94 = .ok (.ireturn, 1) := by decide +kernel
theorem dX8_count_95 : decode cX8_count 95 = .ok (.aload_n 0, 1) := by decide +kernel
theorem dX8_count_96 : decode cX8_count 96 = .ok (.getfield 29, 3) := by decide +kernel
theorem dX8_count_99 : decode cX8_count 99 = .ok (.getfield 117, 3) := by decide +kernel
theorem dX8_count_102 : decode cX8_count 102 = .ok (.getfield 269, 3) := by decide +kernel
theorem dX8_count_105 : decode cX8_count 105 = .ok (.ireturn, 1) := by decide +kernel
theorem dX8_count_106 : decode cX8_count 106 = .ok (.aload_n 0, 1) := by decide +kernel
theorem dX8_count_107 : decode cX8_count 107 = .ok (.getfield 29, 3) := by decide +kernel
theorem dX8_count_110 : decode cX8_count 110 = .ok (.getfield 105, 3) := by decide +kernel
theorem dX8_count_113 : decode cX8_count 113 = .ok (.getfield 109, 3) := by decide +kernel
theorem dX8_count_116 : decode cX8_count 116 = .ok (.ireturn, 1) := by decide +kernel
theorem dX8_count_117 : decode cX8_count 117 = .ok (.aload_n 0, 1) := by decide +kernel
theorem dX8_count_118 : decode cX8_count 118 = .ok (.getfield 29, 3) := by decide +kernel
theorem dX8_count_121 : decode cX8_count 121 = .ok (.getfield 117, 3) := by decide +kernel
theorem dX8_count_124 : decode cX8_count 124 = .ok (.getfield 159, 3) := by decide +kernel
theorem dX8_count_127 : decode cX8_count 127 = .ok (.ireturn, 1) := by decide +kernel
theorem dX8_count_128 : decode cX8_count 128 = .ok (.aload_n 0, 1) := by decide +kernel
theorem dX8_count_129 : decode cX8_count 129 = .ok (.getfield 29, 3) := by decide +kernel
theorem dX8_count_132 : decode cX8_count 132 = .ok (.getfield 117, 3) := by decide +kernel
theorem dX8_count_135 : decode cX8_count 135 = .ok (.getfield 272, 3) := by decide +kernel
theorem dX8_count_138 : decode cX8_count 138 = .ok (.ireturn, 1) := by decide +kernel
theorem dX8_count_139 : decode cX8_count 139 = .ok (.aload_n 0, 1) := by decide +kernel
theorem dX8_count_140 : decode cX8_count 140 = .ok (.getfield 22, 3) := by decide +kernel
theorem dX8_count_143 : decode cX8_count 143 = .ok (.ireturn, 1) := by decide +kernel
theorem dX8_count_144 : decode cX8_count 144 = .ok (.aload_n 0, 1) := by decide +kernel
theorem dX8_count_145 : decode cX8_count 145 = .ok (.getfield 29, 3) := by decide +kernel
theorem dX8_count_148 : decode cX8_count 148 = .ok (.getfield 189, 3) := by decide +kernel
theorem dX8_count_151 : decode cX8_count 151 = .ok (.ireturn, 1) := by decide +kernel
theorem dX8_count_152 : decode cX8_count 152 = .ok (.aload_n 0, 1) := by decide +kernel
theorem dX8_count_153 : decode cX8_count 153 = .ok (.getfield 29, 3) := by decide +kernel
theorem dX8_count_156 : decode cX8_count 156 = .ok (.getfield 117, 3) := by decide +kernel
theorem dX8_count_159 : decode cX8_count 159 = .ok (.aload_n 0, 1) := by decide +kernel
theorem dX8_count_160 : decode cX8_count 160 = .ok (.getfield 29, 3) := by decide +kernel
theorem dX8_count_163 : decode cX8_count 163 = .ok (.getfield 131, 3) := by decide +kernel
theorem dX8_count_166 : decode cX8_count 166 = .ok (.invokevirtual 144, 3) := by decide +kernel
theorem dX8_count_169 : decode cX8_count 169 = .ok (.ireturn, 1) := by decide +kernel
theorem dX8_count_170 : decode cX8_count 170 = .ok (.aload_n 0, 1) := by decide +kernel
theorem dX8_count_171 : decode cX8_count 171 = .ok (.getfield 29, 3) := by decide +kernel
theorem dX8_count_174 : decode cX8_count 174 = .ok (.getfield 117, 3) := by decide +kernel
theorem dX8_count_177 : decode cX8_count 177 = .ok (.aload_n 0, 1) := by decide +kernel
theorem dX8_count_178 : decode cX8_count 178 = .ok (.getfield 29, 3) := by decide +kernel
theorem dX8_count_181 : decode cX8_count 181 = .ok (.getfield 131, 3) := by decide +kernel
theorem dX8_count_184 : decode cX8_count 184 = .ok (.invokevirtual 147, 3) := by decide +kernel
theorem dX8_count_187 : decode cX8_count 187 = .ok (.ireturn, 1) := by decide +kernel
theorem dX8_count_188 : decode cX8_count 188 = .ok (.aload_n 0, 1) := by decide +kernel
theorem dX8_count_189 : decode cX8_count 189 = .ok (.getfield 29, 3) := by decide +kernel
theorem dX8_count_192 : decode cX8_count 192 = .ok (.invokevirtual 275, 3) := by decide +kernel
theorem dX8_count_195 : decode cX8_count 195 = .ok (.ireturn, 1) := by decide +kernel
theorem dX8_count_196 : decode cX8_count 196 = .ok (.aload_n 0, 1) := by decide +kernel
theorem dX8_count_197 : decode cX8_count 197 = .ok (.getfield 29, 3) := by decide +kernel
theorem dX8_count_200 : decode cX8_count 200 = .ok (.getfield 256, 3) := by decide +kernel
theorem dX8_count_203 : decode cX8_count 203 = .ok (.ireturn, 1) := by decide +kernel
theorem dX8_count_204 : decode cX8_count 204 = .ok (.aload_n 0, 1) := by decide +kernel
theorem dX8_count_205 : decode cX8_count 205 = .ok (.getfield 29, 3) := by decide +kernel
theorem dX8_count_208 : decode cX8_count 208 = .ok (.getfield 278, 3) := by decide +kernel
theorem dX8_count_211 : decode cX8_count 211 = .ok (.ireturn, 1) := by decide +kernel
theorem dX8_count_212 : decode cX8_count 212 = .ok (.aload_n 0, 1) := by decide +kernel
theorem dX8_count_213 : decode cX8_count 213 = .ok (.getfield 29, 3) := by decide +kernel
theorem dX8_count_216 : decode cX8_count 216 = .ok (.getfield 281, 3) := by decide +kernel
theorem dX8_count_219 : decode cX8_count 219 = .ok (.ireturn, 1) := by decide +kernel
theorem dX8_count_220 : decode cX8_count 220 = .ok (.aload_n 0, 1) := by decide +kernel
theorem dX8_count_221 : decode cX8_count 221 = .ok (.getfield 29, 3) := by decide +kernel
theorem dX8_count_224 : decode cX8_count 224 = .ok (.getfield 98, 3) := by decide +kernel
theorem dX8_count_227 : decode cX8_count 227 = .ok (.ireturn, 1) := by decide +kernel
theorem dX8_count_228 : decode cX8_count 228 = .ok (.aload_n 0, 1) := by decide +kernel
theorem dX8_count_229 : decode cX8_count 229 = .ok (.getfield 10, 3) := by decide +kernel
theorem dX8_count_232 : decode cX8_count 232 = .ok (.getfield 284, 3) := by decide +kernel
theorem dX8_count_235 : decode cX8_count 235 = .ok (.ireturn, 1) := by decide +kernel
theorem dX8_count_236 : decode cX8_count 236 = .ok (.aload_n 0, 1) := by decide +kernel
theorem dX8_count_237 : decode cX8_count 237 = .ok (.getfield 29, 3) := by decide +kernel
theorem dX8_count_240 : decode cX8_count 240 = .ok (.invokevirtual 259, 3) := by decide +kernel
theorem dX8_count_243 : decode cX8_count 243 = .ok (.ireturn, 1) := by decide +kernel
theorem dX8_count_244 : decode cX8_count 244 = .ok (.aload_n 0, 1) := by decide +kernel
theorem dX8_count_245 : decode cX8_count 245 = .ok (.getfield 29, 3) := by decide +kernel
theorem dX8_count_248 : decode cX8_count 248 = .ok (.getfield 117, 3) := by decide +kernel
theorem dX8_count_251 : decode cX8_count 251 = .ok (.getfield 287, 3) := by decide +kernel
theorem dX8_count_254 : decode cX8_count 254 = .ok (.ireturn, 1) := by decide +kernel
theorem dX8_count_255 : decode cX8_count 255 = .ok (.iconst (-1), 1) := by decide +kernel
theorem dX8_count_256 : decode cX8_count 256 = .ok (.ireturn, 1) := by decide +kernel
theorem dX8_image_0 : decode cX8_image 0 = .ok (.iload_n 1, 1) := by decide +kernel
theorem dX8_image_1 : decode cX8_image 1 = .ok (.ifCond .lt 8, 3) := by decide +kernel
theorem dX8_image_4 : decode cX8_image 4 = .ok (.iload_n 1, 1) := by decide +kernel
theorem dX8_image_5 : decode cX8_image 5 = .ok (.iconst 4, 1) := by decide +kernel
theorem dX8_image_6 : decode cX8_image 6 = .ok (.if_icmp .lt 5, 3) := by decide +kernel
theorem dX8_image_9 : decode cX8_image 9 = .ok (.iconst (-1), 1) := by decide +kernel
theorem dX8_image_10 : decode cX8_image 10 = .ok (.ireturn, 1) := by decide +kernel
theorem dX8_image_11 : decode cX8_image 11 = .ok (.aload_n 0, 1) := by decide +kernel
theorem dX8_image_12 : decode cX8_image 12 = .ok (.getfield 39, 3) := by decide +kernel
theorem dX8_image_15 : decode cX8_image 15 = .ok (.iload_n 1, 1) := by decide +kernel
theorem dX8_image_16 : decode cX8_image 16 = .ok (.aaload, 1) := by decide +kernel
theorem dX8_image_17 : decode cX8_image 17 = .ok (.astore_n 2, 1) := by decide +kernel
theorem dX8_image_18 : decode cX8_image 18 = .ok (.aload_n 2, 1) := by decide +kernel
theorem dX8_image_19 : decode cX8_image 19 = .ok (.ifnonnull 18, 3) := by decide +kernel
theorem dX8_image_22 : decode cX8_image 22 = .ok (.new 26, 3) := by decide +kernel
theorem dX8_image_25 : decode cX8_image 25 = .ok (.dup, 1) := by decide +kernel
theorem dX8_image_26 : decode cX8_image 26 = .ok (.invokespecial 28, 3) := by decide +kernel
theorem dX8_image_29 : decode cX8_image 29 = .ok (.astore_n 2, 1) := by decide +kernel
theorem dX8_image_30 : decode cX8_image 30 = .ok (.aload_n 0, 1) := by decide +kernel
theorem dX8_image_31 : decode cX8_image 31 = .ok (.getfield 39, 3) := by decide +kernel
theorem dX8_image_34 : decode cX8_image 34 = .ok (.iload_n 1, 1) := by decide +kernel
theorem dX8_image_35 : decode cX8_image 35 = .ok (.aload_n 2, 1) := by decide +kernel
theorem dX8_image_36 : decode cX8_image 36 = .ok (.aastore, 1) := by decide +kernel
theorem dX8_image_37 : decode cX8_image 37 = .ok (.aload_n 2, 1) := by decide +kernel
theorem dX8_image_38 : decode cX8_image 38 = .ok (.aload_n 0, 1) := by decide +kernel
theorem dX8_image_39 : decode cX8_image 39 = .ok (.getfield 29, 3) := by decide +kernel
theorem dX8_image_42 : decode cX8_image 42 = .ok (.invokevirtual 101, 3) := by decide +kernel
theorem dX8_image_45 : decode cX8_image 45 = .ok (.aload_n 0, 1) := by decide +kernel
theorem dX8_image_46 : decode cX8_image 46 = .ok (.getfield 29, 3) := by decide +kernel
theorem dX8_image_49 : decode cX8_image 49 = .ok (.getfield 189, 3) := by decide +kernel
theorem dX8_image_52 : decode cX8_image 52 = .ok (.ireturn, 1) := by decide +kernel
theorem dX8_back_0 : decode cX8_back 0 = .ok (.iload_n 1, 1) := by decide +kernel
theorem dX8_back_1 : decode cX8_back 1 = .ok (.ifCond .lt 8, 3) := by decide +kernel
theorem dX8_back_4 : decode cX8_back 4 = .ok (.iload_n 1, 1) := by decide +kernel
theorem dX8_back_5 : decode cX8_back 5 = .ok (.iconst 4, 1) := by decide +kernel
theorem dX8_back_6 : decode cX8_back 6 = .ok (.if_icmp .lt 5, 3) := by decide +kernel
theorem dX8_back_9 : decode cX8_back 9 = .ok (.iconst (-1), 1) := by decide +kernel
theorem dX8_back_10 : decode cX8_back 10 = .ok (.ireturn, 1) := by decide +kernel
theorem dX8_back_11 : decode cX8_back 11 = .ok (.aload_n 0, 1) := by decide +kernel
theorem dX8_back_12 : decode cX8_back 12 = .ok (.getfield 39, 3) := by decide +kernel
theorem dX8_back_15 : decode cX8_back 15 = .ok (.iload_n 1, 1) := by decide +kernel
theorem dX8_back_16 : decode cX8_back 16 = .ok (.aaload, 1) := by decide +kernel
theorem dX8_back_17 : decode cX8_back 17 = .ok (.astore_n 2, 1) := by decide +kernel
theorem dX8_back_18 : decode cX8_back 18 = .ok (.aload_n 2, 1) := by decide +kernel
theorem dX8_back_19 : decode cX8_back 19 = .ok (.ifnonnull 5, 3) := by decide +kernel
theorem dX8_back_22 : decode cX8_back 22 = .ok (.iconst (-1), 1) := by decide +kernel
theorem dX8_back_23 : decode cX8_back 23 = .ok (.ireturn, 1) := by decide +kernel
theorem dX8_back_24 : decode cX8_back 24 = .ok (.aload_n 0, 1) := by decide +kernel
theorem dX8_back_25 : decode cX8_back 25 = .ok (.getfield 64, 3) := by decide +kernel
theorem dX8_back_28 : decode cX8_back 28 = .ok (.invokevirtual 95, 3) := by decide +kernel
theorem dX8_back_31 : decode cX8_back 31 = .ok (.aload_n 0, 1) := by decide +kernel
theorem dX8_back_32 : decode cX8_back 32 = .ok (.getfield 29, 3) := by decide +kernel
theorem dX8_back_35 : decode cX8_back 35 = .ok (.aload_n 2, 1) := by decide +kernel
theorem dX8_back_36 : decode cX8_back 36 = .ok (.invokevirtual 101, 3) := by decide +kernel
theorem dX8_back_39 : decode cX8_back 39 = .ok (.aload_n 0, 1) := by decide +kernel
theorem dX8_back_40 : decode cX8_back 40 = .ok (.getfield 29, 3) := by decide +kernel
theorem dX8_back_43 : decode cX8_back 43 = .ok (.getfield 189, 3) := by decide +kernel
theorem dX8_back_46 : decode cX8_back 46 = .ok (.ireturn, 1) := by decide +kernel
theorem dX8_ruleFor_0 : decode cX8_ruleFor 0 = .ok (.aload_n 0, 1) := by decide +kernel
theorem dX8_ruleFor_1 : decode cX8_ruleFor 1 = .ok (.getfield 29, 3) := by decide +kernel
theorem dX8_ruleFor_4 : decode cX8_ruleFor 4 = .ok (.getfield 117, 3) := by decide +kernel
theorem dX8_ruleFor_7 : decode cX8_ruleFor 7 = .ok (.getfield 247, 3) := by decide +kernel
theorem dX8_ruleFor_10 : decode cX8_ruleFor 10 = .ok (.ifCond .eq 26, 3) := by decide +kernel
theorem dX8_ruleFor_13 : decode cX8_ruleFor 13 = .ok (.iload_n 1, 1) := by decide +kernel
theorem dX8_ruleFor_14 : decode cX8_ruleFor 14 = .ok (.ifCond .lt 22, 3) := by decide +kernel
theorem dX8_ruleFor_17 : decode cX8_ruleFor 17 = .ok (.iload_n 1, 1) := by decide +kernel
theorem dX8_ruleFor_18 : decode cX8_ruleFor 18 = .ok (.aload_n 0, 1) := by decide +kernel
theorem dX8_ruleFor_19 : decode cX8_ruleFor 19 = .ok (.getfield 22, 3) := by decide +kernel
theorem dX8_ruleFor_22 : decode cX8_ruleFor 22 = .ok (.if_icmp .ge 14, 3) := by decide +kernel
theorem dX8_ruleFor_25 : decode cX8_ruleFor 25 = .ok (.iload_n 2, 1) := by decide +kernel
theorem dX8_ruleFor_26 : decode cX8_ruleFor 26 = .ok (.iload_n 3, 1) := by decide +kernel
theorem dX8_ruleFor_27 : decode cX8_ruleFor 27 = .ok (.if_icmp .lt 9, 3) := by decide +kernel
theorem dX8_ruleFor_30 : decode cX8_ruleFor 30 = .ok (.iload_n 2, 1) := by decide +kernel
theorem dX8_ruleFor_31 : decode cX8_ruleFor 31 = .ok (.iload 4, 2) := by decide +kernel
theorem dX8_ruleFor_33 : decode cX8_ruleFor 33 = .ok (.if_icmp .le 5, 3) := by decide +kernel
theorem dX8_ruleFor_36 : decode cX8_ruleFor 36 = .ok (.aconst_null, 1) := by decide +kernel
theorem dX8_ruleFor_37 : decode cX8_ruleFor 37 = .ok (.areturn, 1) := by decide +kernel
theorem dX8_ruleFor_38 : decode cX8_ruleFor 38 = .ok (.aload_n 0, 1) := by decide +kernel
theorem dX8_ruleFor_39 : decode cX8_ruleFor 39 = .ok (.getfield 18, 3) := by decide +kernel
theorem dX8_ruleFor_42 : decode cX8_ruleFor 42 = .ok (.iload_n 1, 1) := by decide +kernel
theorem dX8_ruleFor_43 : decode cX8_ruleFor 43 = .ok (.aaload, 1) := by decide +kernel
theorem dX8_ruleFor_44 : decode cX8_ruleFor 44 = .ok (.areturn, 1) := by decide +kernel
theorem dX8_spotAhead_0 : decode cX8_spotAhead 0 = .ok (.aload_n 0, 1) := by decide +kernel
theorem dX8_spotAhead_1 : decode cX8_spotAhead 1 = .ok (.getfield 36, 3) := by decide +kernel
theorem dX8_spotAhead_4 : decode cX8_spotAhead 4 = .ok (.aload_n 0, 1) := by decide +kernel
theorem dX8_spotAhead_5 : decode cX8_spotAhead 5 = .ok (.getfield 29, 3) := by decide +kernel
theorem dX8_spotAhead_8 : decode cX8_spotAhead 8 = .ok (.invokevirtual 101, 3) := by decide +kernel
theorem dX8_spotAhead_11 : decode cX8_spotAhead 11 = .ok (.aload_n 0, 1) := by decide +kernel
theorem dX8_spotAhead_12 : decode cX8_spotAhead 12 = .ok (.getfield 36, 3) := by decide +kernel
theorem dX8_spotAhead_15 : decode cX8_spotAhead 15 = .ok (.aload_n 1, 1) := by decide +kernel
theorem dX8_spotAhead_16 : decode cX8_spotAhead 16 = .ok (.iload_n 2, 1) := by decide +kernel
theorem dX8_spotAhead_17 : decode cX8_spotAhead 17 = .ok (.invokevirtual 192, 3) := by decide +kernel
theorem dX8_spotAhead_20 : decode cX8_spotAhead 20 = .ok (.aload_n 0, 1) := by decide +kernel
theorem dX8_spotAhead_21 : decode cX8_spotAhead 21 = .ok (.getfield 36, 3) := by decide +kernel
theorem dX8_spotAhead_24 : decode cX8_spotAhead 24 = .ok (.getfield 131, 3) := by decide +kernel
theorem dX8_spotAhead_27 : decode cX8_spotAhead 27 = .ok (.ireturn, 1) := by decide +kernel
theorem dX8_deafMinutes_0 : decode cX8_deafMinutes 0 = .ok (.aload_n 0, 1) := by decide +kernel
theorem dX8_deafMinutes_1 : decode cX8_deafMinutes 1 = .ok (.getfield 36, 3) := by decide +kernel
theorem dX8_deafMinutes_4 : decode cX8_deafMinutes 4 = .ok (.getfield 105, 3) := by decide +kernel
theorem dX8_deafMinutes_7 : decode cX8_deafMinutes 7 = .ok (.getfield 156, 3) := by decide +kernel
theorem dX8_deafMinutes_10 : decode cX8_deafMinutes 10 = .ok (.iload_n 1, 1) := by decide +kernel
theorem dX8_deafMinutes_11 : decode cX8_deafMinutes 11 = .ok (.iaload, 1) := by decide +kernel
theorem dX8_deafMinutes_12 : decode cX8_deafMinutes 12 = .ok (.aload_n 0, 1) := by decide +kernel
theorem dX8_deafMinutes_13 : decode cX8_deafMinutes 13 = .ok (.getfield 29, 3) := by decide +kernel
theorem dX8_deafMinutes_16 : decode cX8_deafMinutes 16 = .ok (.getfield 105, 3) := by decide +kernel
theorem dX8_deafMinutes_19 : decode cX8_deafMinutes 19 = .ok (.getfield 156, 3) := by decide +kernel
theorem dX8_deafMinutes_22 : decode cX8_deafMinutes 22 = .ok (.iload_n 1, 1) := by decide +kernel
theorem dX8_deafMinutes_23 : decode cX8_deafMinutes 23 = .ok (.iaload, 1) := by decide +kernel
theorem dX8_deafMinutes_24 : decode cX8_deafMinutes 24 = .ok (.isub, 1) := by decide +kernel
theorem dX8_deafMinutes_25 : decode cX8_deafMinutes 25 = .ok (.ireturn, 1) := by decide +kernel
theorem dX8_stepsWithout_0 : decode cX8_stepsWithout 0 = .ok (.aload_n 0, 1) := by decide +kernel
theorem dX8_stepsWithout_1 : decode cX8_stepsWithout 1 = .ok (.getfield 36, 3) := by decide +kernel
theorem dX8_stepsWithout_4 : decode cX8_stepsWithout 4 = .ok (.aload_n 0, 1) := by decide +kernel
theorem dX8_stepsWithout_5 : decode cX8_stepsWithout 5 = .ok (.getfield 29, 3) := by decide +kernel
theorem dX8_stepsWithout_8 : decode cX8_stepsWithout 8 = .ok (.invokevirtual 218, 3) := by decide +kernel
theorem dX8_stepsWithout_11 : decode cX8_stepsWithout 11 = .ok (.aload_n 0, 1) := by decide +kernel
theorem dX8_stepsWithout_12 : decode cX8_stepsWithout 12 = .ok (.getfield 36, 3) := by decide +kernel
theorem dX8_stepsWithout_15 : decode cX8_stepsWithout 15 = .ok (.getfield 105, 3) := by decide +kernel
theorem dX8_stepsWithout_18 : decode cX8_stepsWithout 18 = .ok (.iload_n 3, 1) := by decide +kernel
theorem dX8_stepsWithout_19 : decode cX8_stepsWithout 19 = .ok (.invokevirtual 178, 3) := by decide +kernel
theorem dX8_stepsWithout_22 : decode cX8_stepsWithout 22 = .ok (.aload_n 0, 1) := by decide +kernel
theorem dX8_stepsWithout_23 : decode cX8_stepsWithout 23 = .ok (.getfield 36, 3) := by decide +kernel
theorem dX8_stepsWithout_26 : decode cX8_stepsWithout 26 = .ok (.aload_n 1, 1) := by decide +kernel
theorem dX8_stepsWithout_27 : decode cX8_stepsWithout 27 = .ok (.iload_n 2, 1) := by decide +kernel
theorem dX8_stepsWithout_28 : decode cX8_stepsWithout 28 = .ok (.invokevirtual 192, 3) := by decide +kernel
theorem dX8_stepsWithout_31 : decode cX8_stepsWithout 31 = .ok (.aload_n 0, 1) := by decide +kernel
theorem dX8_stepsWithout_32 : decode cX8_stepsWithout 32 = .ok (.getfield 29, 3) := by decide +kernel
theorem dX8_stepsWithout_35 : decode cX8_stepsWithout 35 = .ok (.getfield 117, 3) := by decide +kernel
theorem dX8_stepsWithout_38 : decode cX8_stepsWithout 38 = .ok (.aload_n 0, 1) := by decide +kernel
theorem dX8_stepsWithout_39 : decode cX8_stepsWithout 39 = .ok (.getfield 36, 3) := by decide +kernel
theorem dX8_stepsWithout_42 : decode cX8_stepsWithout 42 = .ok (.getfield 131, 3) := by decide +kernel
theorem dX8_stepsWithout_45 : decode cX8_stepsWithout 45 = .ok (.iload 4, 2) := by decide +kernel
theorem dX8_stepsWithout_47 : decode cX8_stepsWithout 47 = .ok (.invokevirtual 290, 3) := by decide +kernel
theorem dX8_stepsWithout_50 : decode cX8_stepsWithout 50 = .ok (.ireturn, 1) := by decide +kernel
theorem dX8_seekSeat_0 : decode cX8_seekSeat 0 = .ok (.aload_n 0, 1) := by decide +kernel
theorem dX8_seekSeat_1 : decode cX8_seekSeat 1 = .ok (.getfield 29, 3) := by decide +kernel
theorem dX8_seekSeat_4 : decode cX8_seekSeat 4 = .ok (.getfield 105, 3) := by decide +kernel
theorem dX8_seekSeat_7 : decode cX8_seekSeat 7 = .ok (.astore 4, 2) := by decide +kernel
theorem dX8_seekSeat_9 : decode cX8_seekSeat 9 = .ok (.aload_n 0, 1) := by decide +kernel
theorem dX8_seekSeat_10 : decode cX8_seekSeat 10 = .ok (.getfield 36, 3) := by decide +kernel
theorem dX8_seekSeat_13 : decode cX8_seekSeat 13 = .ok (.aload_n 0, 1) := by decide +kernel
theorem dX8_seekSeat_14 : decode cX8_seekSeat 14 = .ok (.getfield 29, 3) := by decide +kernel
theorem dX8_seekSeat_17 : decode cX8_seekSeat 17 = .ok (.invokevirtual 101, 3) := by decide +kernel
theorem dX8_seekSeat_20 : decode cX8_seekSeat 20 = .ok (.iconst 0, 1) := by decide +kernel
theorem dX8_seekSeat_21 : decode cX8_seekSeat 21 = .ok (.istore 5, 2) := by decide +kernel
theorem dX8_seekSeat_23 : decode cX8_seekSeat 23 = .ok (.iload 5, 2) := by decide +kernel
theorem dX8_seekSeat_25 : decode cX8_seekSeat 25 = .ok (.aload 4, 2) := by decide +kernel
theorem dX8_seekSeat_27 : decode cX8_seekSeat 27 = .ok (.getfield 109, 3) := by decide +kernel
theorem dX8_seekSeat_30 : decode cX8_seekSeat 30 = .ok (.if_icmp .ge 139, 3) := by decide +kernel
theorem dX8_seekSeat_33 : decode cX8_seekSeat 33 = .ok (.iconst 0, 1) := by decide +kernel
theorem dX8_seekSeat_34 : decode cX8_seekSeat 34 = .ok (.istore 6, 2) := by decide +kernel
theorem dX8_seekSeat_36 : decode cX8_seekSeat 36 = .ok (.iload 6, 2) := by decide +kernel
theorem dX8_seekSeat_38 : decode cX8_seekSeat 38 = .ok (.aload_n 0, 1) := by decide +kernel
theorem dX8_seekSeat_39 : decode cX8_seekSeat 39 = .ok (.getfield 29, 3) := by decide +kernel
theorem dX8_seekSeat_42 : decode cX8_seekSeat 42 = .ok (.getfield 117, 3) := by decide +kernel
theorem dX8_seekSeat_45 : decode cX8_seekSeat 45 = .ok (.getfield 247, 3) := by decide +kernel
theorem dX8_seekSeat_48 : decode cX8_seekSeat 48 = .ok (.if_icmp .ge 115, 3) := by decide +kernel
theorem dX8_seekSeat_51 : decode cX8_seekSeat 51 = .ok (.aload 4, 2) := by decide +kernel
theorem dX8_seekSeat_53 : decode cX8_seekSeat 53 = .ok (.iload 5, 2) := by decide +kernel
theorem dX8_seekSeat_55 : decode cX8_seekSeat 55 = .ok (.invokevirtual 175, 3) := by decide +kernel
theorem dX8_seekSeat_58 : decode cX8_seekSeat 58 = .ok (.ifCond .eq 99, 3) := by decide +kernel
theorem dX8_seekSeat_61 : decode cX8_seekSeat 61 = .ok (.aload 4, 2) := by decide +kernel
theorem dX8_seekSeat_63 : decode cX8_seekSeat 63 = .ok (.getfield 128, 3) := by decide +kernel
theorem dX8_seekSeat_66 : decode cX8_seekSeat 66 = .ok (.iload 6, 2) := by decide +kernel
theorem dX8_seekSeat_68 : decode cX8_seekSeat 68 = .ok (.iaload, 1) := by decide +kernel
theorem dX8_seekSeat_69 : decode cX8_seekSeat 69 = .ok (.iconst (-1), 1) := by decide +kernel
theorem dX8_seekSeat_70 : decode cX8_seekSeat 70 = .ok (.if_icmp .ne 87, 3) := by decide +kernel
theorem dX8_seekSeat_73 : decode cX8_seekSeat 73 = .ok (.aload_n 0, 1) := by decide +kernel
theorem dX8_seekSeat_74 : decode cX8_seekSeat 74 = .ok (.getfield 36, 3) := by decide +kernel
theorem dX8_seekSeat_77 : decode cX8_seekSeat 77 = .ok (.aload_n 0, 1) := by decide +kernel
theorem dX8_seekSeat_78 : decode cX8_seekSeat 78 = .ok (.getfield 29, 3) := by decide +kernel
theorem dX8_seekSeat_81 : decode cX8_seekSeat 81 = .ok (.invokevirtual 218, 3) := by decide +kernel
theorem dX8_seekSeat_84 : decode cX8_seekSeat 84 = .ok (.aload_n 0, 1) := by decide +kernel
theorem dX8_seekSeat_85 : decode cX8_seekSeat 85 = .ok (.getfield 36, 3) := by decide +kernel
theorem dX8_seekSeat_88 : decode cX8_seekSeat 88 = .ok (.getfield 105, 3) := by decide +kernel
theorem dX8_seekSeat_91 : decode cX8_seekSeat 91 = .ok (.iload 5, 2) := by decide +kernel
theorem dX8_seekSeat_93 : decode cX8_seekSeat 93 = .ok (.iload 6, 2) := by decide +kernel
theorem dX8_seekSeat_95 : decode cX8_seekSeat 95 = .ok (.invokevirtual 171, 3) := by decide +kernel
theorem dX8_seekSeat_98 : decode cX8_seekSeat 98 = .ok (.aload_n 0, 1) := by decide +kernel
theorem dX8_seekSeat_99 : decode cX8_seekSeat 99 = .ok (.getfield 36, 3) := by decide +kernel
theorem dX8_seekSeat_102 : decode cX8_seekSeat 102 = .ok (.aload_n 1, 1) := by decide +kernel
theorem dX8_seekSeat_103 : decode cX8_seekSeat 103 = .ok (.iload_n 2, 1) := by decide +kernel
theorem dX8_seekSeat_104 : decode cX8_seekSeat 104 = .ok (.aload_n 0, 1) := by decide +kernel
theorem dX8_seekSeat_105 : decode cX8_seekSeat 105 = .ok (.getfield 36, 3) := by decide +kernel
theorem dX8_seekSeat_108 : decode cX8_seekSeat 108 = .ok (.getfield 105, 3) := by decide +kernel
theorem dX8_seekSeat_111 : decode cX8_seekSeat 111 = .ok (.getfield 141, 3) := by decide +kernel
theorem dX8_seekSeat_114 : decode cX8_seekSeat 114 = .ok (.iload_n 3, 1) := by decide +kernel
theorem dX8_seekSeat_115 : decode cX8_seekSeat 115 = .ok (.iaload, 1) := by decide +kernel
theorem dX8_seekSeat_116 : decode cX8_seekSeat 116 = .ok (.invokevirtual 221, 3) := by decide +kernel
theorem dX8_seekSeat_119 : decode cX8_seekSeat 119 = .ok (.ifCond .eq 38, 3) := by decide +kernel
theorem dX8_seekSeat_122 : decode cX8_seekSeat 122 = .ok (.aload_n 0, 1) := by decide +kernel
theorem dX8_seekSeat_123 : decode cX8_seekSeat 123 = .ok (.getfield 64, 3) := by decide +kernel
theorem dX8_seekSeat_126 : decode cX8_seekSeat 126 = .ok (.iload 5, 2) := by decide +kernel
theorem dX8_seekSeat_128 : decode cX8_seekSeat 128 = .ok (.aload_n 0, 1) := by decide +kernel
theorem dX8_seekSeat_129 : decode cX8_seekSeat 129 = .ok (.getfield 29, 3) := by decide +kernel
theorem dX8_seekSeat_132 : decode cX8_seekSeat 132 = .ok (.getfield 117, 3) := by decide +kernel
theorem dX8_seekSeat_135 : decode cX8_seekSeat 135 = .ok (.iload 6, 2) := by decide +kernel
theorem dX8_seekSeat_137 : decode cX8_seekSeat 137 = .ok (.invokevirtual 144, 3) := by decide +kernel
theorem dX8_seekSeat_140 : decode cX8_seekSeat 140 = .ok (.aload_n 0, 1) := by decide +kernel
theorem dX8_seekSeat_141 : decode cX8_seekSeat 141 = .ok (.getfield 29, 3) := by decide +kernel
theorem dX8_seekSeat_144 : decode cX8_seekSeat 144 = .ok (.getfield 117, 3) := by decide +kernel
theorem dX8_seekSeat_147 : decode cX8_seekSeat 147 = .ok (.iload 6, 2) := by decide +kernel
theorem dX8_seekSeat_149 : decode cX8_seekSeat 149 = .ok (.invokevirtual 147, 3) := by decide +kernel
theorem dX8_seekSeat_152 : decode cX8_seekSeat 152 = .ok (.iconst 0, 1) := by decide +kernel
theorem dX8_seekSeat_153 : decode cX8_seekSeat 153 = .ok (.invokevirtual 293, 3) := by decide +kernel
theorem dX8_seekSeat_156 : decode cX8_seekSeat 156 = .ok (.return_, 1) := by decide +kernel
theorem dX8_seekSeat_157 : decode cX8_seekSeat 157 = .ok (.iinc 6 1, 3) := by decide +kernel
theorem dX8_seekSeat_160 : decode cX8_seekSeat 160 = .ok (.goto (-124), 3) := by decide +kernel
theorem dX8_seekSeat_163 : decode cX8_seekSeat 163 = .ok (.iinc 5 1, 3) := by decide +kernel
theorem dX8_seekSeat_166 : decode cX8_seekSeat 166 = .ok (.goto (-143), 3) := by decide +kernel
theorem dX8_seekSeat_169 : decode cX8_seekSeat 169 = .ok (.return_, 1) := by decide +kernel
theorem dX8_seekFan_0 : decode cX8_seekFan 0 = .ok (.aload_n 0, 1) := by decide +kernel
theorem dX8_seekFan_1 : decode cX8_seekFan 1 = .ok (.getfield 29, 3) := by decide +kernel
theorem dX8_seekFan_4 : decode cX8_seekFan 4 = .ok (.getfield 117, 3) := by decide +kernel
theorem dX8_seekFan_7 : decode cX8_seekFan 7 = .ok (.astore 4, 2) := by decide +kernel
theorem dX8_seekFan_9 : decode cX8_seekFan 9 = .ok (.aload_n 0, 1) := by decide +kernel
theorem dX8_seekFan_10 : decode cX8_seekFan 10 = .ok (.getfield 36, 3) := by decide +kernel
theorem dX8_seekFan_13 : decode cX8_seekFan 13 = .ok (.aload_n 0, 1) := by decide +kernel
theorem dX8_seekFan_14 : decode cX8_seekFan 14 = .ok (.getfield 29, 3) := by decide +kernel
theorem dX8_seekFan_17 : decode cX8_seekFan 17 = .ok (.invokevirtual 101, 3) := by decide +kernel
theorem dX8_seekFan_20 : decode cX8_seekFan 20 = .ok (.iconst 1, 1) := by decide +kernel
theorem dX8_seekFan_21 : decode cX8_seekFan 21 = .ok (.istore 5, 2) := by decide +kernel
theorem dX8_seekFan_23 : decode cX8_seekFan 23 = .ok (.iload 5, 2) := by decide +kernel
theorem dX8_seekFan_25 : decode cX8_seekFan 25 = .ok (.bipush 9, 2) := by decide +kernel
theorem dX8_seekFan_27 : decode cX8_seekFan 27 = .ok (.if_icmp .gt 124, 3) := by decide +kernel
theorem dX8_seekFan_30 : decode cX8_seekFan 30 = .ok (.iconst 0, 1) := by decide +kernel
theorem dX8_seekFan_31 : decode cX8_seekFan 31 = .ok (.istore 6, 2) := by decide +kernel
theorem dX8_seekFan_33 : decode cX8_seekFan 33 = .ok (.iload 6, 2) := by decide +kernel
theorem dX8_seekFan_35 : decode cX8_seekFan 35 = .ok (.aload 4, 2) := by decide +kernel
theorem dX8_seekFan_37 : decode cX8_seekFan 37 = .ok (.getfield 247, 3) := by decide +kernel
theorem dX8_seekFan_40 : decode cX8_seekFan 40 = .ok (.if_icmp .ge 105, 3) := by decide +kernel
theorem dX8_seekFan_43 : decode cX8_seekFan 43 = .ok (.iconst 1, 1) := by decide +kernel
theorem dX8_seekFan_44 : decode cX8_seekFan 44 = .ok (.istore 7, 2) := by decide +kernel
theorem dX8_seekFan_46 : decode cX8_seekFan 46 = .ok (.iload 7, 2) := by decide +kernel
theorem dX8_seekFan_48 : decode cX8_seekFan 48 = .ok (.iconst 5, 1) := by decide +kernel
theorem dX8_seekFan_49 : decode cX8_seekFan 49 = .ok (.if_icmp .ge 90, 3) := by decide +kernel
theorem dX8_seekFan_52 : decode cX8_seekFan 52 = .ok (.aload_n 0, 1) := by decide +kernel
theorem dX8_seekFan_53 : decode cX8_seekFan 53 = .ok (.getfield 36, 3) := by decide +kernel
theorem dX8_seekFan_56 : decode cX8_seekFan 56 = .ok (.aload_n 0, 1) := by decide +kernel
theorem dX8_seekFan_57 : decode cX8_seekFan 57 = .ok (.getfield 29, 3) := by decide +kernel
theorem dX8_seekFan_60 : decode cX8_seekFan 60 = .ok (.invokevirtual 218, 3) := by decide +kernel
theorem dX8_seekFan_63 : decode cX8_seekFan 63 = .ok (.aload_n 0, 1) := by decide +kernel
theorem dX8_seekFan_64 : decode cX8_seekFan 64 = .ok (.getfield 36, 3) := by decide +kernel
theorem dX8_seekFan_67 : decode cX8_seekFan 67 = .ok (.getfield 117, 3) := by decide +kernel
theorem dX8_seekFan_70 : decode cX8_seekFan 70 = .ok (.aload 4, 2) := by decide +kernel
theorem dX8_seekFan_72 : decode cX8_seekFan 72 = .ok (.getfield 159, 3) := by decide +kernel
theorem dX8_seekFan_75 : decode cX8_seekFan 75 = .ok (.putfield 159, 3) := by decide +kernel
theorem dX8_seekFan_78 : decode cX8_seekFan 78 = .ok (.aload_n 0, 1) := by decide +kernel
theorem dX8_seekFan_79 : decode cX8_seekFan 79 = .ok (.getfield 36, 3) := by decide +kernel
theorem dX8_seekFan_82 : decode cX8_seekFan 82 = .ok (.getfield 117, 3) := by decide +kernel
theorem dX8_seekFan_85 : decode cX8_seekFan 85 = .ok (.iload 6, 2) := by decide +kernel
theorem dX8_seekFan_87 : decode cX8_seekFan 87 = .ok (.iload 7, 2) := by decide +kernel
theorem dX8_seekFan_89 : decode cX8_seekFan 89 = .ok (.iload 5, 2) := by decide +kernel
theorem dX8_seekFan_91 : decode cX8_seekFan 91 = .ok (.invokevirtual 297, 3) := by decide +kernel
theorem dX8_seekFan_94 : decode cX8_seekFan 94 = .ok (.aload_n 0, 1) := by decide +kernel
theorem dX8_seekFan_95 : decode cX8_seekFan 95 = .ok (.getfield 36, 3) := by decide +kernel
theorem dX8_seekFan_98 : decode cX8_seekFan 98 = .ok (.aload_n 1, 1) := by decide +kernel
theorem dX8_seekFan_99 : decode cX8_seekFan 99 = .ok (.iload_n 2, 1) := by decide +kernel
theorem dX8_seekFan_100 : decode cX8_seekFan 100 = .ok (.iload_n 3, 1) := by decide +kernel
theorem dX8_seekFan_101 : decode cX8_seekFan 101 = .ok (.invokevirtual 221, 3) := by decide +kernel
theorem dX8_seekFan_104 : decode cX8_seekFan 104 = .ok (.ifCond .eq 29, 3) := by decide +kernel
theorem dX8_seekFan_107 : decode cX8_seekFan 107 = .ok (.aload_n 0, 1) := by decide +kernel
theorem dX8_seekFan_108 : decode cX8_seekFan 108 = .ok (.getfield 64, 3) := by decide +kernel
theorem dX8_seekFan_111 : decode cX8_seekFan 111 = .ok (.iload 5, 2) := by decide +kernel
theorem dX8_seekFan_113 : decode cX8_seekFan 113 = .ok (.aload 4, 2) := by decide +kernel
theorem dX8_seekFan_115 : decode cX8_seekFan 115 = .ok (.iload 6, 2) := by decide +kernel
theorem dX8_seekFan_117 : decode cX8_seekFan 117 = .ok (.invokevirtual 144, 3) := by decide +kernel
theorem dX8_seekFan_120 : decode cX8_seekFan 120 = .ok (.aload 4, 2) := by decide +kernel
theorem dX8_seekFan_122 : decode cX8_seekFan 122 = .ok (.iload 6, 2) := by decide +kernel
theorem dX8_seekFan_124 : decode cX8_seekFan 124 = .ok (.invokevirtual 147, 3) := by decide +kernel
theorem dX8_seekFan_127 : decode cX8_seekFan 127 = .ok (.iload 7, 2) := by decide +kernel
theorem dX8_seekFan_129 : decode cX8_seekFan 129 = .ok (.invokevirtual 293, 3) := by decide +kernel
theorem dX8_seekFan_132 : decode cX8_seekFan 132 = .ok (.return_, 1) := by decide +kernel
theorem dX8_seekFan_133 : decode cX8_seekFan 133 = .ok (.iinc 7 1, 3) := by decide +kernel
theorem dX8_seekFan_136 : decode cX8_seekFan 136 = .ok (.goto (-90), 3) := by decide +kernel
theorem dX8_seekFan_139 : decode cX8_seekFan 139 = .ok (.iinc 6 1, 3) := by decide +kernel
theorem dX8_seekFan_142 : decode cX8_seekFan 142 = .ok (.goto (-109), 3) := by decide +kernel
theorem dX8_seekFan_145 : decode cX8_seekFan 145 = .ok (.iinc 5 1, 3) := by decide +kernel
theorem dX8_seekFan_148 : decode cX8_seekFan 148 = .ok (.goto (-125), 3) := by decide +kernel
theorem dX8_seekFan_151 : decode cX8_seekFan 151 = .ok (.return_, 1) := by decide +kernel
theorem dX8_markSpan_0 : decode cX8_markSpan 0 = .ok (.aload_n 0, 1) := by decide +kernel
theorem dX8_markSpan_1 : decode cX8_markSpan 1 = .ok (.getfield 70, 3) := by decide +kernel
theorem dX8_markSpan_4 : decode cX8_markSpan 4 = .ok (.iconst 0, 1) := by decide +kernel
theorem dX8_markSpan_5 : decode cX8_markSpan 5 = .ok (.invokestatic 301, 3) := by decide +kernel
theorem dX8_markSpan_8 : decode cX8_markSpan 8 = .ok (.aload_n 0, 1) := by decide +kernel
theorem dX8_markSpan_9 : decode cX8_markSpan 9 = .ok (.getfield 29, 3) := by decide +kernel
theorem dX8_markSpan_12 : decode cX8_markSpan 12 = .ok (.getfield 105, 3) := by decide +kernel
theorem dX8_markSpan_15 : decode cX8_markSpan 15 = .ok (.getfield 150, 3) := by decide +kernel
theorem dX8_markSpan_18 : decode cX8_markSpan 18 = .ok (.iload_n 3, 1) := by decide +kernel
theorem dX8_markSpan_19 : decode cX8_markSpan 19 = .ok (.iaload, 1) := by decide +kernel
theorem dX8_markSpan_20 : decode cX8_markSpan 20 = .ok (.istore 5, 2) := by decide +kernel
theorem dX8_markSpan_22 : decode cX8_markSpan 22 = .ok (.bipush 99, 2) := by decide +kernel
theorem dX8_markSpan_24 : decode cX8_markSpan 24 = .ok (.iload 5, 2) := by decide +kernel
theorem dX8_markSpan_26 : decode cX8_markSpan 26 = .ok (.iload 4, 2) := by decide +kernel
theorem dX8_markSpan_28 : decode cX8_markSpan 28 = .ok (.iadd, 1) := by decide +kernel
theorem dX8_markSpan_29 : decode cX8_markSpan 29 = .ok (.invokestatic 307, 3) := by decide +kernel
theorem dX8_markSpan_32 : decode cX8_markSpan 32 = .ok (.istore 6, 2) := by decide +kernel
theorem dX8_markSpan_34 : decode cX8_markSpan 34 = .ok (.aload_n 0, 1) := by decide +kernel
theorem dX8_markSpan_35 : decode cX8_markSpan 35 = .ok (.getfield 36, 3) := by decide +kernel
theorem dX8_markSpan_38 : decode cX8_markSpan 38 = .ok (.aload_n 0, 1) := by decide +kernel
theorem dX8_markSpan_39 : decode cX8_markSpan 39 = .ok (.getfield 29, 3) := by decide +kernel
theorem dX8_markSpan_42 : decode cX8_markSpan 42 = .ok (.invokevirtual 101, 3) := by decide +kernel
theorem dX8_markSpan_45 : decode cX8_markSpan 45 = .ok (.iconst 0, 1) := by decide +kernel
theorem dX8_markSpan_46 : decode cX8_markSpan 46 = .ok (.iload 5, 2) := by decide +kernel
theorem dX8_markSpan_48 : decode cX8_markSpan 48 = .ok (.iload 4, 2) := by decide +kernel
theorem dX8_markSpan_50 : decode cX8_markSpan 50 = .ok (.isub, 1) := by decide +kernel
theorem dX8_markSpan_51 : decode cX8_markSpan 51 = .ok (.invokestatic 312, 3) := by decide +kernel
theorem dX8_markSpan_54 : decode cX8_markSpan 54 = .ok (.istore 7, 2) := by decide +kernel
theorem dX8_markSpan_56 : decode cX8_markSpan 56 = .ok (.iload 7, 2) := by decide +kernel
theorem dX8_markSpan_58 : decode cX8_markSpan 58 = .ok (.iload 6, 2) := by decide +kernel
theorem dX8_markSpan_60 : decode cX8_markSpan 60 = .ok (.if_icmp .gt 56, 3) := by decide +kernel
theorem dX8_markSpan_63 : decode cX8_markSpan 63 = .ok (.aload_n 0, 1) := by decide +kernel
theorem dX8_markSpan_64 : decode cX8_markSpan 64 = .ok (.getfield 36, 3) := by decide +kernel
theorem dX8_markSpan_67 : decode cX8_markSpan 67 = .ok (.aload_n 0, 1) := by decide +kernel
theorem dX8_markSpan_68 : decode cX8_markSpan 68 = .ok (.getfield 29, 3) := by decide +kernel
theorem dX8_markSpan_71 : decode cX8_markSpan 71 = .ok (.invokevirtual 218, 3) := by decide +kernel
theorem dX8_markSpan_74 : decode cX8_markSpan 74 = .ok (.aload_n 0, 1) := by decide +kernel
theorem dX8_markSpan_75 : decode cX8_markSpan 75 = .ok (.getfield 36, 3) := by decide +kernel
theorem dX8_markSpan_78 : decode cX8_markSpan 78 = .ok (.getfield 105, 3) := by decide +kernel
theorem dX8_markSpan_81 : decode cX8_markSpan 81 = .ok (.getfield 150, 3) := by decide +kernel
theorem dX8_markSpan_84 : decode cX8_markSpan 84 = .ok (.iload_n 3, 1) := by decide +kernel
theorem dX8_markSpan_85 : decode cX8_markSpan 85 = .ok (.iload 7, 2) := by decide +kernel
theorem dX8_markSpan_87 : decode cX8_markSpan 87 = .ok (.iastore, 1) := by decide +kernel
theorem dX8_markSpan_88 : decode cX8_markSpan 88 = .ok (.aload_n 0, 1) := by decide +kernel
theorem dX8_markSpan_89 : decode cX8_markSpan 89 = .ok (.getfield 36, 3) := by decide +kernel
theorem dX8_markSpan_92 : decode cX8_markSpan 92 = .ok (.aload_n 1, 1) := by decide +kernel
theorem dX8_markSpan_93 : decode cX8_markSpan 93 = .ok (.iload_n 2, 1) := by decide +kernel
theorem dX8_markSpan_94 : decode cX8_markSpan 94 = .ok (.invokevirtual 192, 3) := by decide +kernel
theorem dX8_markSpan_97 : decode cX8_markSpan 97 = .ok (.aload_n 0, 1) := by decide +kernel
theorem dX8_markSpan_98 : decode cX8_markSpan 98 = .ok (.getfield 70, 3) := by decide +kernel
theorem dX8_markSpan_101 : decode cX8_markSpan 101 = .ok (.aload_n 0, 1) := by decide +kernel
theorem dX8_markSpan_102 : decode cX8_markSpan 102 = .ok (.getfield 36, 3) := by decide +kernel
theorem dX8_markSpan_105 : decode cX8_markSpan 105 = .ok (.getfield 131, 3) := by decide +kernel
theorem dX8_markSpan_108 : decode cX8_markSpan 108 = .ok (.iconst 1, 1) := by decide +kernel
theorem dX8_markSpan_109 : decode cX8_markSpan 109 = .ok (.iastore, 1) := by decide +kernel
theorem dX8_markSpan_110 : decode cX8_markSpan 110 = .ok (.iinc 7 1, 3) := by decide +kernel
theorem dX8_markSpan_113 : decode cX8_markSpan 113 = .ok (.goto (-57), 3) := by decide +kernel
theorem dX8_markSpan_116 : decode cX8_markSpan 116 = .ok (.return_, 1) := by decide +kernel
theorem dX8_isHeardAs_0 : decode cX8_isHeardAs 0 = .ok (.iconst 0, 1) := by decide +kernel
theorem dX8_isHeardAs_1 : decode cX8_isHeardAs 1 = .ok (.istore 4, 2) := by decide +kernel
theorem dX8_isHeardAs_3 : decode cX8_isHeardAs 3 = .ok (.iconst 0, 1) := by decide +kernel
theorem dX8_isHeardAs_4 : decode cX8_isHeardAs 4 = .ok (.istore 5, 2) := by decide +kernel
theorem dX8_isHeardAs_6 : decode cX8_isHeardAs 6 = .ok (.iload 5, 2) := by decide +kernel
theorem dX8_isHeardAs_8 : decode cX8_isHeardAs 8 = .ok (.aload_n 0, 1) := by decide +kernel
theorem dX8_isHeardAs_9 : decode cX8_isHeardAs 9 = .ok (.getfield 36, 3) := by decide +kernel
theorem dX8_isHeardAs_12 : decode cX8_isHeardAs 12 = .ok (.getfield 105, 3) := by decide +kernel
theorem dX8_isHeardAs_15 : decode cX8_isHeardAs 15 = .ok (.getfield 109, 3) := by decide +kernel
theorem dX8_isHeardAs_18 : decode cX8_isHeardAs 18 = .ok (.if_icmp .ge 66, 3) := by decide +kernel
theorem dX8_isHeardAs_21 : decode cX8_isHeardAs 21 = .ok (.aload_n 0, 1) := by decide +kernel
theorem dX8_isHeardAs_22 : decode cX8_isHeardAs 22 = .ok (.getfield 36, 3) := by decide +kernel
theorem dX8_isHeardAs_25 : decode cX8_isHeardAs 25 = .ok (.getfield 105, 3) := by decide +kernel
theorem dX8_isHeardAs_28 : decode cX8_isHeardAs 28 = .ok (.getfield 141, 3) := by decide +kernel
theorem dX8_isHeardAs_31 : decode cX8_isHeardAs 31 = .ok (.iload 5, 2) := by decide +kernel
theorem dX8_isHeardAs_33 : decode cX8_isHeardAs 33 = .ok (.iaload, 1) := by decide +kernel
theorem dX8_isHeardAs_34 : decode cX8_isHeardAs 34 = .ok (.istore 6, 2) := by decide +kernel
theorem dX8_isHeardAs_36 : decode cX8_isHeardAs 36 = .ok (.iload 6, 2) := by decide +kernel
theorem dX8_isHeardAs_38 : decode cX8_isHeardAs 38 = .ok (.ifCond .lt 40, 3) := by decide +kernel
theorem dX8_isHeardAs_41 : decode cX8_isHeardAs 41 = .ok (.iload 6, 2) := by decide +kernel
theorem dX8_isHeardAs_43 : decode cX8_isHeardAs 43 = .ok (.aload_n 0, 1) := by decide +kernel
theorem dX8_isHeardAs_44 : decode cX8_isHeardAs 44 = .ok (.getfield 36, 3) := by decide +kernel
theorem dX8_isHeardAs_47 : decode cX8_isHeardAs 47 = .ok (.getfield 131, 3) := by decide +kernel
theorem dX8_isHeardAs_50 : decode cX8_isHeardAs 50 = .ok (.if_icmp .eq 28, 3) := by decide +kernel
theorem dX8_isHeardAs_53 : decode cX8_isHeardAs 53 = .ok (.aload_n 0, 1) := by decide +kernel
theorem dX8_isHeardAs_54 : decode cX8_isHeardAs 54 = .ok (.getfield 36, 3) := by decide +kernel
theorem dX8_isHeardAs_57 : decode cX8_isHeardAs 57 = .ok (.getfield 117, 3) := by decide +kernel
theorem dX8_isHeardAs_60 : decode cX8_isHeardAs 60 = .ok (.iload 6, 2) := by decide +kernel
theorem dX8_isHeardAs_62 : decode cX8_isHeardAs 62 = .ok (.iload_n 1, 1) := by decide +kernel
theorem dX8_isHeardAs_63 : decode cX8_isHeardAs 63 = .ok (.invokevirtual 315, 3) := by decide +kernel
theorem dX8_isHeardAs_66 : decode cX8_isHeardAs 66 = .ok (.ifCond .eq 12, 3) := by decide +kernel
theorem dX8_isHeardAs_69 : decode cX8_isHeardAs 69 = .ok (.iload 4, 2) := by decide +kernel
theorem dX8_isHeardAs_71 : decode cX8_isHeardAs 71 = .ok (.iconst 1, 1) := by decide +kernel
theorem dX8_isHeardAs_72 : decode cX8_isHeardAs 72 = .ok (.iload 5, 2) := by decide +kernel
theorem dX8_isHeardAs_74 : decode cX8_isHeardAs 74 = .ok (.ishl, 1) := by decide +kernel
theorem dX8_isHeardAs_75 : decode cX8_isHeardAs 75 = .ok (.ior, 1) := by decide +kernel
theorem dX8_isHeardAs_76 : decode cX8_isHeardAs 76 = .ok (.istore 4, 2) := by decide +kernel
theorem dX8_isHeardAs_78 : decode cX8_isHeardAs 78 = .ok (.iinc 5 1, 3) := by decide +kernel
theorem dX8_isHeardAs_81 : decode cX8_isHeardAs 81 = .ok (.goto (-75), 3) := by decide +kernel
theorem dX8_isHeardAs_84 : decode cX8_isHeardAs 84 = .ok (.iload 4, 2) := by decide +kernel
theorem dX8_isHeardAs_86 : decode cX8_isHeardAs 86 = .ok (.iload_n 2, 1) := by decide +kernel
theorem dX8_isHeardAs_87 : decode cX8_isHeardAs 87 = .ok (.iand, 1) := by decide +kernel
theorem dX8_isHeardAs_88 : decode cX8_isHeardAs 88 = .ok (.iload_n 2, 1) := by decide +kernel
theorem dX8_isHeardAs_89 : decode cX8_isHeardAs 89 = .ok (.if_icmp .ne 14, 3) := by decide +kernel
theorem dX8_isHeardAs_92 : decode cX8_isHeardAs 92 = .ok (.iload 4, 2) := by decide +kernel
theorem dX8_isHeardAs_94 : decode cX8_isHeardAs 94 = .ok (.iload_n 3, 1) := by decide +kernel
theorem dX8_isHeardAs_95 : decode cX8_isHeardAs 95 = .ok (.iand, 1) := by decide +kernel
theorem dX8_isHeardAs_96 : decode cX8_isHeardAs 96 = .ok (.ifCond .ne 7, 3) := by decide +kernel
theorem dX8_isHeardAs_99 : decode cX8_isHeardAs 99 = .ok (.iconst 1, 1) := by decide +kernel
theorem dX8_isHeardAs_100 : decode cX8_isHeardAs 100 = .ok (.goto 4, 3) := by decide +kernel
theorem dX8_isHeardAs_103 : decode cX8_isHeardAs 103 = .ok (.iconst 0, 1) := by decide +kernel
theorem dX8_isHeardAs_104 : decode cX8_isHeardAs 104 = .ok (.ireturn, 1) := by decide +kernel
theorem dX9_init_0 : decode cX9_init 0 = .ok (.aload_n 0, 1) := by decide +kernel
theorem dX9_init_1 : decode cX9_init 1 = .ok (.invokespecial 1, 3) := by decide +kernel
theorem dX9_init_4 : decode cX9_init 4 = .ok (.aload_n 0, 1) := by decide +kernel
theorem dX9_init_5 : decode cX9_init 5 = .ok (.bipush 14, 2) := by decide +kernel
theorem dX9_init_7 : decode cX9_init 7 = .ok (.newarray .int, 2) := by decide +kernel
theorem dX9_init_9 : decode cX9_init 9 = .ok (.putfield 7, 3) := by decide +kernel
theorem dX9_init_12 : decode cX9_init 12 = .ok (.aload_n 0, 1) := by decide +kernel
theorem dX9_init_13 : decode cX9_init 13 = .ok (.bipush 80, 2) := by decide +kernel
theorem dX9_init_15 : decode cX9_init 15 = .ok (.newarray .int, 2) := by decide +kernel
theorem dX9_init_17 : decode cX9_init 17 = .ok (.putfield 13, 3) := by decide +kernel
theorem dX9_init_20 : decode cX9_init 20 = .ok (.aload_n 0, 1) := by decide +kernel
theorem dX9_init_21 : decode cX9_init 21 = .ok (.bipush 12, 2) := by decide +kernel
theorem dX9_init_23 : decode cX9_init 23 = .ok (.newarray .int, 2) := by decide +kernel
theorem dX9_init_25 : decode cX9_init 25 = .ok (.putfield 16, 3) := by decide +kernel
theorem dX9_init_28 : decode cX9_init 28 = .ok (.aload_n 0, 1) := by decide +kernel
theorem dX9_init_29 : decode cX9_init 29 = .ok (.bipush 12, 2) := by decide +kernel
theorem dX9_init_31 : decode cX9_init 31 = .ok (.newarray .int, 2) := by decide +kernel
theorem dX9_init_33 : decode cX9_init 33 = .ok (.putfield 19, 3) := by decide +kernel
theorem dX9_init_36 : decode cX9_init 36 = .ok (.aload_n 0, 1) := by decide +kernel
theorem dX9_init_37 : decode cX9_init 37 = .ok (.bipush 12, 2) := by decide +kernel
theorem dX9_init_39 : decode cX9_init 39 = .ok (.newarray .int, 2) := by decide +kernel
theorem dX9_init_41 : decode cX9_init 41 = .ok (.putfield 22, 3) := by decide +kernel
theorem dX9_init_44 : decode cX9_init 44 = .ok (.aload_n 0, 1) := by decide +kernel
theorem dX9_init_45 : decode cX9_init 45 = .ok (.bipush 12, 2) := by decide +kernel
theorem dX9_init_47 : decode cX9_init 47 = .ok (.newarray .int, 2) := by decide +kernel
theorem dX9_init_49 : decode cX9_init 49 = .ok (.putfield 25, 3) := by decide +kernel
theorem dX9_init_52 : decode cX9_init 52 = .ok (.aload_n 0, 1) := by decide +kernel
theorem dX9_init_53 : decode cX9_init 53 = .ok (.bipush 7, 2) := by decide +kernel
theorem dX9_init_55 : decode cX9_init 55 = .ok (.newarray .int, 2) := by decide +kernel
theorem dX9_init_57 : decode cX9_init 57 = .ok (.putfield 28, 3) := by decide +kernel
theorem dX9_init_60 : decode cX9_init 60 = .ok (.aload_n 0, 1) := by decide +kernel
theorem dX9_init_61 : decode cX9_init 61 = .ok (.bipush 7, 2) := by decide +kernel
theorem dX9_init_63 : decode cX9_init 63 = .ok (.newarray .int, 2) := by decide +kernel
theorem dX9_init_65 : decode cX9_init 65 = .ok (.putfield 31, 3) := by decide +kernel
theorem dX9_init_68 : decode cX9_init 68 = .ok (.aload_n 0, 1) := by decide +kernel
theorem dX9_init_69 : decode cX9_init 69 = .ok (.bipush 7, 2) := by decide +kernel
theorem dX9_init_71 : decode cX9_init 71 = .ok (.newarray .int, 2) := by decide +kernel
theorem dX9_init_73 : decode cX9_init 73 = .ok (.putfield 34, 3) := by decide +kernel
theorem dX9_init_76 : decode cX9_init 76 = .ok (.aload_n 0, 1) := by decide +kernel
theorem dX9_init_77 : decode cX9_init 77 = .ok (.bipush 8, 2) := by decide +kernel
theorem dX9_init_79 : decode cX9_init 79 = .ok (.newarray .int, 2) := by decide +kernel
theorem dX9_init_81 : decode cX9_init 81 = .ok (.putfield 37, 3) := by decide +kernel
theorem dX9_init_84 : decode cX9_init 84 = .ok (.aload_n 0, 1) := by decide +kernel
theorem dX9_init_85 : decode cX9_init 85 = .ok (.bipush 8, 2) := by decide +kernel
theorem dX9_init_87 : decode cX9_init 87 = .ok (.newarray .int, 2) := by decide +kernel
theorem dX9_init_89 : decode cX9_init 89 = .ok (.putfield 40, 3) := by decide +kernel
theorem dX9_init_92 : decode cX9_init 92 = .ok (.aload_n 0, 1) := by decide +kernel
theorem dX9_init_93 : decode cX9_init 93 = .ok (.bipush 120, 2) := by decide +kernel
theorem dX9_init_95 : decode cX9_init 95 = .ok (.newarray .int, 2) := by decide +kernel
theorem dX9_init_97 : decode cX9_init 97 = .ok (.putfield 43, 3) := by decide +kernel
theorem dX9_init_100 : decode cX9_init 100 = .ok (.aload_n 0, 1) := by decide +kernel
theorem dX9_init_101 : decode cX9_init 101 = .ok (.bipush 6, 2) := by decide +kernel
theorem dX9_init_103 : decode cX9_init 103 = .ok (.newarray .int, 2) := by decide +kernel
theorem dX9_init_105 : decode cX9_init 105 = .ok (.putfield 46, 3) := by decide +kernel
theorem dX9_init_108 : decode cX9_init 108 = .ok (.aload_n 0, 1) := by decide +kernel
theorem dX9_init_109 : decode cX9_init 109 = .ok (.bipush 80, 2) := by decide +kernel
theorem dX9_init_111 : decode cX9_init 111 = .ok (.newarray .int, 2) := by decide +kernel
theorem dX9_init_113 : decode cX9_init 113 = .ok (.putfield 49, 3) := by decide +kernel
theorem dX9_init_116 : decode cX9_init 116 = .ok (.aload_n 0, 1) := by decide +kernel
theorem dX9_init_117 : decode cX9_init 117 = .ok (.bipush 12, 2) := by decide +kernel
theorem dX9_init_119 : decode cX9_init 119 = .ok (.newarray .int, 2) := by decide +kernel
theorem dX9_init_121 : decode cX9_init 121 = .ok (.putfield 52, 3) := by decide +kernel
theorem dX9_init_124 : decode cX9_init 124 = .ok (.aload_n 0, 1) := by decide +kernel
theorem dX9_init_125 : decode cX9_init 125 = .ok (.bipush 12, 2) := by decide +kernel
theorem dX9_init_127 : decode cX9_init 127 = .ok (.newarray .int, 2) := by decide +kernel
theorem dX9_init_129 : decode cX9_init 129 = .ok (.putfield 55, 3) := by decide +kernel
theorem dX9_init_132 : decode cX9_init 132 = .ok (.aload_n 0, 1) := by decide +kernel
theorem dX9_init_133 : decode cX9_init 133 = .ok (.bipush 12, 2) := by decide +kernel
theorem dX9_init_135 : decode cX9_init 135 = .ok (.newarray .int, 2) := by decide +kernel
theorem dX9_init_137 : decode cX9_init 137 = .ok (.putfield 58, 3) := by decide +kernel
theorem dX9_init_140 : decode cX9_init 140 = .ok (.aload_n 0, 1) := by decide +kernel
theorem dX9_init_141 : decode cX9_init 141 = .ok (.bipush 7, 2) := by decide +kernel
theorem dX9_init_143 : decode cX9_init 143 = .ok (.newarray .int, 2) := by decide +kernel
theorem dX9_init_145 : decode cX9_init 145 = .ok (.putfield 61, 3) := by decide +kernel
theorem dX9_init_148 : decode cX9_init 148 = .ok (.aload_n 0, 1) := by decide +kernel
theorem dX9_init_149 : decode cX9_init 149 = .ok (.bipush 7, 2) := by decide +kernel
theorem dX9_init_151 : decode cX9_init 151 = .ok (.newarray .int, 2) := by decide +kernel
theorem dX9_init_153 : decode cX9_init 153 = .ok (.putfield 64, 3) := by decide +kernel
theorem dX9_init_156 : decode cX9_init 156 = .ok (.aload_n 0, 1) := by decide +kernel
theorem dX9_init_157 : decode cX9_init 157 = .ok (.bipush 7, 2) := by decide +kernel
theorem dX9_init_159 : decode cX9_init 159 = .ok (.newarray .int, 2) := by decide +kernel
theorem dX9_init_161 : decode cX9_init 161 = .ok (.putfield 67, 3) := by decide +kernel
theorem dX9_init_164 : decode cX9_init 164 = .ok (.aload_n 0, 1) := by decide +kernel
theorem dX9_init_165 : decode cX9_init 165 = .ok (.bipush 8, 2) := by decide +kernel
theorem dX9_init_167 : decode cX9_init 167 = .ok (.newarray .int, 2) := by decide +kernel
theorem dX9_init_169 : decode cX9_init 169 = .ok (.putfield 70, 3) := by decide +kernel
theorem dX9_init_172 : decode cX9_init 172 = .ok (.aload_n 0, 1) := by decide +kernel
theorem dX9_init_173 : decode cX9_init 173 = .ok (.bipush 8, 2) := by decide +kernel
theorem dX9_init_175 : decode cX9_init 175 = .ok (.newarray .int, 2) := by decide +kernel
theorem dX9_init_177 : decode cX9_init 177 = .ok (.putfield 73, 3) := by decide +kernel
theorem dX9_init_180 : decode cX9_init 180 = .ok (.aload_n 0, 1) := by decide +kernel
theorem dX9_init_181 : decode cX9_init 181 = .ok (.bipush 9, 2) := by decide +kernel
theorem dX9_init_183 : decode cX9_init 183 = .ok (.putfield 76, 3) := by decide +kernel
theorem dX9_init_186 : decode cX9_init 186 = .ok (.aload_n 0, 1) := by decide +kernel
theorem dX9_init_187 : decode cX9_init 187 = .ok (.sipush 400, 3) := by decide +kernel
theorem dX9_init_190 : decode cX9_init 190 = .ok (.newarray .byte, 2) := by decide +kernel
theorem dX9_init_192 : decode cX9_init 192 = .ok (.putfield 80, 3) := by decide +kernel
theorem dX9_init_195 : decode cX9_init 195 = .ok (.aload_n 0, 1) := by decide +kernel
theorem dX9_init_196 : decode cX9_init 196 = .ok (.sipush 1800, 3) := by decide +kernel
theorem dX9_init_199 : decode cX9_init 199 = .ok (.newarray .int, 2) := by decide +kernel
theorem dX9_init_201 : decode cX9_init 201 = .ok (.putfield 84, 3) := by decide +kernel
theorem dX9_init_204 : decode cX9_init 204 = .ok (.aload_n 0, 1) := by decide +kernel
theorem dX9_init_205 : decode cX9_init 205 = .ok (.sipush 1800, 3) := by decide +kernel
theorem dX9_init_208 : decode cX9_init 208 = .ok (.newarray .int, 2) := by decide +kernel
theorem dX9_init_210 : decode cX9_init 210 = .ok (.putfield 87, 3) := by decide +kernel
theorem dX9_init_213 : decode cX9_init 213 = .ok (.aload_n 0, 1) := by decide +kernel
theorem dX9_init_214 : decode cX9_init 214 = .ok (.bipush 6, 2) := by decide +kernel
theorem dX9_init_216 : decode cX9_init 216 = .ok (.newarray .int, 2) := by decide +kernel
theorem dX9_init_218 : decode cX9_init 218 = .ok (.putfield 90, 3) := by decide +kernel
theorem dX9_init_221 : decode cX9_init 221 = .ok (.aload_n 0, 1) := by decide +kernel
theorem dX9_init_222 : decode cX9_init 222 = .ok (.bipush 72, 2) := by decide +kernel
theorem dX9_init_224 : decode cX9_init 224 = .ok (.newarray .int, 2) := by decide +kernel
theorem dX9_init_226 : decode cX9_init 226 = .ok (.putfield 93, 3) := by decide +kernel
theorem dX9_init_229 : decode cX9_init 229 = .ok (.aload_n 0, 1) := by decide +kernel
theorem dX9_init_230 : decode cX9_init 230 = .ok (.bipush 72, 2) := by decide +kernel
theorem dX9_init_232 : decode cX9_init 232 = .ok (.newarray .int, 2) := by decide +kernel
theorem dX9_init_234 : decode cX9_init 234 = .ok (.putfield 96, 3) := by decide +kernel
theorem dX9_init_237 : decode cX9_init 237 = .ok (.aload_n 0, 1) := by decide +kernel
theorem dX9_init_238 : decode cX9_init 238 = .ok (.bipush 72, 2) := by decide +kernel
theorem dX9_init_240 : decode cX9_init 240 = .ok (.newarray .int, 2) := by decide +kernel
theorem dX9_init_242 : decode cX9_init 242 = .ok (.putfield 99, 3) := by decide +kernel
theorem dX9_init_245 : decode cX9_init 245 = .ok (.aload_n 0, 1) := by decide +kernel
theorem dX9_init_246 : decode cX9_init 246 = .ok (.sipush 402, 3) := by decide +kernel
theorem dX9_init_249 : decode cX9_init 249 = .ok (.newarray .int, 2) := by decide +kernel
theorem dX9_init_251 : decode cX9_init 251 = .ok (.putfield 102, 3) := by decide +kernel
theorem dX9_init_254 : decode cX9_init 254 = .ok (.aload_n 0, 1) := by decide +kernel
theorem dX9_init_255 : decode cX9_init 255 = .ok (.bipush 9, 2) := by decide +kernel
theorem dX9_init_257 : decode cX9_init 257 = .ok (.newarray .long, 2) := by decide +kernel
theorem dX9_init_259 : decode cX9_init 259 = .ok (.putfield 105, 3) := by decide +kernel
theorem dX9_init_262 : decode cX9_init 262 = .ok (.aload_n 0, 1) := by decide +kernel
theorem dX9_init_263 : decode cX9_init 263 = .ok (.sipush 300, 3) := by decide +kernel
theorem dX9_init_266 : decode cX9_init 266 = .ok (.newarray .long, 2) := by decide +kernel
theorem dX9_init_268 : decode cX9_init 268 = .ok (.putfield 109, 3) := by decide +kernel
theorem dX9_init_271 : decode cX9_init 271 = .ok (.aload_n 0, 1) := by decide +kernel
theorem dX9_init_272 : decode cX9_init 272 = .ok (.bipush 80, 2) := by decide +kernel
theorem dX9_init_274 : decode cX9_init 274 = .ok (.newarray .int, 2) := by decide +kernel
theorem dX9_init_276 : decode cX9_init 276 = .ok (.putfield 112, 3) := by decide +kernel
theorem dX9_init_279 : decode cX9_init 279 = .ok (.aload_n 0, 1) := by decide +kernel
theorem dX9_init_280 : decode cX9_init 280 = .ok (.bipush 14, 2) := by decide +kernel
theorem dX9_init_282 : decode cX9_init 282 = .ok (.newarray .int, 2) := by decide +kernel
theorem dX9_init_284 : decode cX9_init 284 = .ok (.putfield 115, 3) := by decide +kernel
theorem dX9_init_287 : decode cX9_init 287 = .ok (.aload_n 0, 1) := by decide +kernel
theorem dX9_init_288 : decode cX9_init 288 = .ok (.bipush 80, 2) := by decide +kernel
theorem dX9_init_290 : decode cX9_init 290 = .ok (.newarray .int, 2) := by decide +kernel
theorem dX9_init_292 : decode cX9_init 292 = .ok (.putfield 118, 3) := by decide +kernel
theorem dX9_init_295 : decode cX9_init 295 = .ok (.aload_n 0, 1) := by decide +kernel
theorem dX9_init_296 : decode cX9_init 296 = .ok (.bipush 12, 2) := by decide +kernel
theorem dX9_init_298 : decode cX9_init 298 = .ok (.newarray .int, 2) := by decide +kernel
theorem dX9_init_300 : decode cX9_init 300 = .ok (.putfield 121, 3) := by decide +kernel
theorem dX9_init_303 : decode cX9_init 303 = .ok (.aload_n 0, 1) := by decide +kernel
theorem dX9_init_304 : decode cX9_init 304 = .ok (.bipush 120, 2) := by decide +kernel
theorem dX9_init_306 : decode cX9_init 306 = .ok (.newarray .int, 2) := by decide +kernel
theorem dX9_init_308 : decode cX9_init 308 = .ok (.putfield 124, 3) := by decide +kernel
theorem dX9_init_311 : decode cX9_init 311 = .ok (.aload_n 0, 1) := by decide +kernel
theorem dX9_init_312 : decode cX9_init 312 = .ok (.bipush 12, 2) := by decide +kernel
theorem dX9_init_314 : decode cX9_init 314 = .ok (.newarray .int, 2) := by decide +kernel
theorem dX9_init_316 : decode cX9_init 316 = .ok (.putfield 127, 3) := by decide +kernel
theorem dX9_init_319 : decode cX9_init 319 = .ok (.aload_n 0, 1) := by decide +kernel
theorem dX9_init_320 : decode cX9_init 320 = .ok (.bipush 80, 2) := by decide +kernel
theorem dX9_init_322 : decode cX9_init 322 = .ok (.newarray .boolean, 2) := by decide +kernel
theorem dX9_init_324 : decode cX9_init 324 = .ok (.putfield 130, 3) := by decide +kernel
theorem dX9_init_327 : decode cX9_init 327 = .ok (.aload_n 0, 1) := by decide +kernel
theorem dX9_init_328 : decode cX9_init 328 = .ok (.bipush 12, 2) := by decide +kernel
theorem dX9_init_330 : decode cX9_init 330 = .ok (.newarray .int, 2) := by decide +kernel
theorem dX9_init_332 : decode cX9_init 332 = .ok (.putfield 134, 3) := by decide +kernel
theorem dX9_init_335 : decode cX9_init 335 = .ok (.aload_n 0, 1) := by decide +kernel
theorem dX9_init_336 : decode cX9_init 336 = .ok (.sipush 1240, 3) := by decide +kernel
theorem dX9_init_339 : decode cX9_init 339 = .ok (.newarray .int, 2) := by decide +kernel
theorem dX9_init_341 : decode cX9_init 341 = .ok (.putfield 137, 3) := by decide +kernel
theorem dX9_init_344 : decode cX9_init 344 = .ok (.aload_n 0, 1) := by decide +kernel
theorem dX9_init_345 : decode cX9_init 345 = .ok (.iconst 4, 1) := by decide +kernel
theorem dX9_init_346 : decode cX9_init 346 = .ok (.newarray .boolean, 2) := by decide +kernel
theorem dX9_init_348 : decode cX9_init 348 = .ok (.putfield 140, 3) := by decide +kernel
theorem dX9_init_351 : decode cX9_init 351 = .ok (.aload_n 0, 1) := by decide +kernel
theorem dX9_init_352 : decode cX9_init 352 = .ok (.getfield 7, 3) := by decide +kernel
theorem dX9_init_355 : decode cX9_init 355 = .ok (.iconst 5, 1) := by decide +kernel
theorem dX9_init_356 : decode cX9_init 356 = .ok (.iconst (-1), 1) := by decide +kernel
theorem dX9_init_357 : decode cX9_init 357 = .ok (.iastore, 1) := by decide +kernel
theorem dX9_init_358 : decode cX9_init 358 = .ok (.aload_n 0, 1) := by decide +kernel
theorem dX9_init_359 : decode cX9_init 359 = .ok (.getfield 7, 3) := by decide +kernel
theorem dX9_init_362 : decode cX9_init 362 = .ok (.bipush 6, 2) := by decide +kernel
theorem dX9_init_364 : decode cX9_init 364 = .ok (.iconst (-1), 1) := by decide +kernel
theorem dX9_init_365 : decode cX9_init 365 = .ok (.iastore, 1) := by decide +kernel
theorem dX9_init_366 : decode cX9_init 366 = .ok (.return_, 1) := by decide +kernel
theorem dX9_in_0 : decode cX9_in 0 = .ok (.lload_n 0, 1) := by decide +kernel
theorem dX9_in_1 : decode cX9_in 1 = .ok (.lload_n 2, 1) := by decide +kernel
theorem dX9_in_2 : decode cX9_in 2 = .ok (.lcmp, 1) := by decide +kernel
theorem dX9_in_3 : decode cX9_in 3 = .ok (.ifCond .lt 14, 3) := by decide +kernel
theorem dX9_in_6 : decode cX9_in 6 = .ok (.lload_n 0, 1) := by decide +kernel
theorem dX9_in_7 : decode cX9_in 7 = .ok (.lload 4, 2) := by decide +kernel
theorem dX9_in_9 : decode cX9_in 9 = .ok (.lcmp, 1) := by decide +kernel
theorem dX9_in_10 : decode cX9_in 10 = .ok (.ifCond .gt 7, 3) := by decide +kernel
theorem dX9_in_13 : decode cX9_in 13 = .ok (.iconst 1, 1) := by decide +kernel
theorem dX9_in_14 : decode cX9_in 14 = .ok (.goto 4, 3) := by decide +kernel
theorem dX9_in_17 : decode cX9_in 17 = .ok (.iconst 0, 1) := by decide +kernel
theorem dX9_in_18 : decode cX9_in 18 = .ok (.ireturn, 1) := by decide +kernel
theorem dX9_apart_0 : decode cX9_apart 0 = .ok (.iload_n 0, 1) := by decide +kernel
theorem dX9_apart_1 : decode cX9_apart 1 = .ok (.iload_n 1, 1) := by decide +kernel
theorem dX9_apart_2 : decode cX9_apart 2 = .ok (.if_icmp .ge 9, 3) := by decide +kernel
theorem dX9_apart_5 : decode cX9_apart 5 = .ok (.iload_n 1, 1) := by decide +kernel
theorem dX9_apart_6 : decode cX9_apart 6 = .ok (.iload_n 0, 1) := by decide +kernel
theorem dX9_apart_7 : decode cX9_apart 7 = .ok (.isub, 1) := by decide +kernel
theorem dX9_apart_8 : decode cX9_apart 8 = .ok (.goto 6, 3) := by decide +kernel
theorem dX9_apart_11 : decode cX9_apart 11 = .ok (.iload_n 0, 1) := by decide +kernel
theorem dX9_apart_12 : decode cX9_apart 12 = .ok (.iload_n 1, 1) := by decide +kernel
theorem dX9_apart_13 : decode cX9_apart 13 = .ok (.isub, 1) := by decide +kernel
theorem dX9_apart_14 : decode cX9_apart 14 = .ok (.ireturn, 1) := by decide +kernel
theorem dX9_isHall_0 : decode cX9_isHall 0 = .ok (.aload_n 0, 1) := by decide +kernel
theorem dX9_isHall_1 : decode cX9_isHall 1 = .ok (.getfield 7, 3) := by decide +kernel
theorem dX9_isHall_4 : decode cX9_isHall 4 = .ok (.iconst 0, 1) := by decide +kernel
theorem dX9_isHall_5 : decode cX9_isHall 5 = .ok (.iaload, 1) := by decide +kernel
theorem dX9_isHall_6 : decode cX9_isHall 6 = .ok (.ifCond .le 7, 3) := by decide +kernel
theorem dX9_isHall_9 : decode cX9_isHall 9 = .ok (.iconst 1, 1) := by decide +kernel
theorem dX9_isHall_10 : decode cX9_isHall 10 = .ok (.goto 4, 3) := by decide +kernel
theorem dX9_isHall_13 : decode cX9_isHall 13 = .ok (.iconst 0, 1) := by decide +kernel
theorem dX9_isHall_14 : decode cX9_isHall 14 = .ok (.ireturn, 1) := by decide +kernel
theorem dX9_isSeat_0 : decode cX9_isSeat 0 = .ok (.iload_n 1, 1) := by decide +kernel
theorem dX9_isSeat_1 : decode cX9_isSeat 1 = .ok (.i2l, 1) := by decide +kernel
theorem dX9_isSeat_2 : decode cX9_isSeat 2 = .ok (.lconst 0, 1) := by decide +kernel
theorem dX9_isSeat_3 : decode cX9_isSeat 3 = .ok (.aload_n 0, 1) := by decide +kernel
theorem dX9_isSeat_4 : decode cX9_isSeat 4 = .ok (.getfield 7, 3) := by decide +kernel
theorem dX9_isSeat_7 : decode cX9_isSeat 7 = .ok (.iconst 0, 1) := by decide +kernel
theorem dX9_isSeat_8 : decode cX9_isSeat 8 = .ok (.iaload, 1) := by decide +kernel
theorem dX9_isSeat_9 : decode cX9_isSeat 9 = .ok (.iconst 1, 1) := by decide +kernel
theorem dX9_isSeat_10 : decode cX9_isSeat 10 = .ok (.isub, 1) := by decide +kernel
theorem dX9_isSeat_11 : decode cX9_isSeat 11 = .ok (.i2l, 1) := by decide +kernel
theorem dX9_isSeat_12 : decode cX9_isSeat 12 = .ok (.invokestatic 146, 3) := by decide +kernel
theorem dX9_isSeat_15 : decode cX9_isSeat 15 = .ok (.ifCond .eq 25, 3) := by decide +kernel
theorem dX9_isSeat_18 : decode cX9_isSeat 18 = .ok (.iload_n 2, 1) := by decide +kernel
theorem dX9_isSeat_19 : decode cX9_isSeat 19 = .ok (.i2l, 1) := by decide +kernel
theorem dX9_isSeat_20 : decode cX9_isSeat 20 = .ok (.lconst 0, 1) := by decide +kernel
theorem dX9_isSeat_21 : decode cX9_isSeat 21 = .ok (.aload_n 0, 1) := by decide +kernel
theorem dX9_isSeat_22 : decode cX9_isSeat 22 = .ok (.getfield 7, 3) := by decide +kernel
theorem dX9_isSeat_25 : decode cX9_isSeat 25 = .ok (.iconst 1, 1) := by decide +kernel
theorem dX9_isSeat_26 : decode cX9_isSeat 26 = .ok (.iaload, 1) := by decide +kernel
theorem dX9_isSeat_27 : decode cX9_isSeat 27 = .ok (.iconst 1, 1) := by decide +kernel
theorem dX9_isSeat_28 : decode cX9_isSeat 28 = .ok (.isub, 1) := by decide +kernel
theorem dX9_isSeat_29 : decode cX9_isSeat 29 = .ok (.i2l, 1) := by decide +kernel
theorem dX9_isSeat_30 : decode cX9_isSeat 30 = .ok (.invokestatic 146, 3) := by decide +kernel
theorem dX9_isSeat_33 : decode cX9_isSeat 33 = .ok (.ifCond .eq 7, 3) := by decide +kernel
theorem dX9_isSeat_36 : decode cX9_isSeat 36 = .ok (.iconst 1, 1) := by decide +kernel
theorem dX9_isSeat_37 : decode cX9_isSeat 37 = .ok (.goto 4, 3) := by decide +kernel
theorem dX9_isSeat_40 : decode cX9_isSeat 40 = .ok (.iconst 0, 1) := by decide +kernel
theorem dX9_isSeat_41 : decode cX9_isSeat 41 = .ok (.ireturn, 1) := by decide +kernel
theorem dX9_isThere_0 : decode cX9_isThere 0 = .ok (.aload_n 0, 1) := by decide +kernel
theorem dX9_isThere_1 : decode cX9_isThere 1 = .ok (.iload_n 1, 1) := by decide +kernel
theorem dX9_isThere_2 : decode cX9_isThere 2 = .ok (.bipush 10, 2) := by decide +kernel
theorem dX9_isThere_4 : decode cX9_isThere 4 = .ok (.irem, 1) := by decide +kernel
theorem dX9_isThere_5 : decode cX9_isThere 5 = .ok (.iload_n 1, 1) := by decide +kernel
theorem dX9_isThere_6 : decode cX9_isThere 6 = .ok (.bipush 10, 2) := by decide +kernel
theorem dX9_isThere_8 : decode cX9_isThere 8 = .ok (.idiv, 1) := by decide +kernel
theorem dX9_isThere_9 : decode cX9_isThere 9 = .ok (.invokevirtual 150, 3) := by decide +kernel
theorem dX9_isThere_12 : decode cX9_isThere 12 = .ok (.ireturn, 1) := by decide +kernel
theorem dX9_by_0 : decode cX9_by 0 = .ok (.iload_n 1, 1) := by decide +kernel
theorem dX9_by_1 : decode cX9_by 1 = .ok (.bipush 10, 2) := by decide +kernel
theorem dX9_by_3 : decode cX9_by 3 = .ok (.irem, 1) := by decide +kernel
theorem dX9_by_4 : decode cX9_by 4 = .ok (.iload_n 2, 1) := by decide +kernel
theorem dX9_by_5 : decode cX9_by 5 = .ok (.iconst 2, 1) := by decide +kernel
theorem dX9_by_6 : decode cX9_by 6 = .ok (.if_icmp .ne 7, 3) := by decide +kernel
theorem dX9_by_9 : decode cX9_by 9 = .ok (.iconst 1, 1) := by decide +kernel
theorem dX9_by_10 : decode cX9_by 10 = .ok (.goto 13, 3) := by decide +kernel
theorem dX9_by_13 : decode cX9_by 13 = .ok (.iload_n 2, 1) := by decide +kernel
theorem dX9_by_14 : decode cX9_by 14 = .ok (.iconst 4, 1) := by decide +kernel
theorem dX9_by_15 : decode cX9_by 15 = .ok (.if_icmp .ne 7, 3) := by decide +kernel
theorem dX9_by_18 : decode cX9_by 18 = .ok (.iconst (-1), 1) := by decide +kernel
theorem dX9_by_19 : decode cX9_by 19 = .ok (.goto 4, 3) := by decide +kernel
theorem dX9_by_22 : decode cX9_by 22 = .ok (.iconst 0, 1) := by decide +kernel
theorem dX9_by_23 : decode cX9_by 23 = .ok (.iadd, 1) := by decide +kernel
theorem dX9_by_24 : decode cX9_by 24 = .ok (.istore_n 3, 1) := by decide +kernel
theorem dX9_by_25 : decode cX9_by 25 = .ok (.iload_n 1, 1) := by decide +kernel
theorem dX9_by_26 : decode cX9_by 26 = .ok (.bipush 10, 2) := by decide +kernel
theorem dX9_by_28 : decode cX9_by 28 = .ok (.idiv, 1) := by decide +kernel
theorem dX9_by_29 : decode cX9_by 29 = .ok (.iload_n 2, 1) := by decide +kernel
theorem dX9_by_30 : decode cX9_by 30 = .ok (.iconst 3, 1) := by decide +kernel
theorem dX9_by_31 : decode cX9_by 31 = .ok (.if_icmp .ne 7, 3) := by decide +kernel
theorem dX9_by_34 : decode cX9_by 34 = .ok (.iconst 1, 1) := by decide +kernel
theorem dX9_by_35 : decode cX9_by 35 = .ok (.goto 13, 3) := by decide +kernel
theorem dX9_by_38 : decode cX9_by 38 = .ok (.iload_n 2, 1) := by decide +kernel
theorem dX9_by_39 : decode cX9_by 39 = .ok (.iconst 1, 1) := by decide +kernel
theorem dX9_by_40 : decode cX9_by 40 = .ok (.if_icmp .ne 7, 3) := by decide +kernel
theorem dX9_by_43 : decode cX9_by 43 = .ok (.iconst (-1), 1) := by decide +kernel
theorem dX9_by_44 : decode cX9_by 44 = .ok (.goto 4, 3) := by decide +kernel
theorem dX9_by_47 : decode cX9_by 47 = .ok (.iconst 0, 1) := by decide +kernel
theorem dX9_by_48 : decode cX9_by 48 = .ok (.iadd, 1) := by decide +kernel
theorem dX9_by_49 : decode cX9_by 49 = .ok (.istore 4, 2) := by decide +kernel
theorem dX9_by_51 : decode cX9_by 51 = .ok (.aload_n 0, 1) := by decide +kernel
theorem dX9_by_52 : decode cX9_by 52 = .ok (.iload_n 3, 1) := by decide +kernel
theorem dX9_by_53 : decode cX9_by 53 = .ok (.iload 4, 2) := by decide +kernel
theorem dX9_by_55 : decode cX9_by 55 = .ok (.invokevirtual 150, 3) := by decide +kernel
theorem dX9_by_58 : decode cX9_by 58 = .ok (.ifCond .eq 13, 3) := by decide +kernel
theorem dX9_by_61 : decode cX9_by 61 = .ok (.bipush 10, 2) := by decide +kernel
theorem dX9_by_63 : decode cX9_by 63 = .ok (.iload 4, 2) := by decide +kernel
theorem dX9_by_65 : decode cX9_by 65 = .ok (.imul, 1) := by decide +kernel
theorem dX9_by_66 : decode cX9_by 66 = .ok (.iload_n 3, 1) := by decide +kernel
theorem dX9_by_67 : decode cX9_by 67 = .ok (.iadd, 1) := by decide +kernel
theorem dX9_by_68 : decode cX9_by 68 = .ok (.goto 4, 3) := by decide +kernel
theorem dX9_by_71 : decode cX9_by 71 = .ok (.iconst (-1), 1) := by decide +kernel
theorem dX9_by_72 : decode cX9_by 72 = .ok (.ireturn, 1) := by decide +kernel
theorem dX9_isGuest_0 : decode cX9_isGuest 0 = .ok (.iload_n 1, 1) := by decide +kernel
theorem dX9_isGuest_1 : decode cX9_isGuest 1 = .ok (.i2l, 1) := by decide +kernel
theorem dX9_isGuest_2 : decode cX9_isGuest 2 = .ok (.lconst 0, 1) := by decide +kernel
theorem dX9_isGuest_3 : decode cX9_isGuest 3 = .ok (.aload_n 0, 1) := by decide +kernel
theorem dX9_isGuest_4 : decode cX9_isGuest 4 = .ok (.getfield 7, 3) := by decide +kernel
theorem dX9_isGuest_7 : decode cX9_isGuest 7 = .ok (.iconst 2, 1) := by decide +kernel
theorem dX9_isGuest_8 : decode cX9_isGuest 8 = .ok (.iaload, 1) := by decide +kernel
theorem dX9_isGuest_9 : decode cX9_isGuest 9 = .ok (.iconst 1, 1) := by decide +kernel
theorem dX9_isGuest_10 : decode cX9_isGuest 10 = .ok (.isub, 1) := by decide +kernel
theorem dX9_isGuest_11 : decode cX9_isGuest 11 = .ok (.i2l, 1) := by decide +kernel
theorem dX9_isGuest_12 : decode cX9_isGuest 12 = .ok (.invokestatic 146, 3) := by decide +kernel
theorem dX9_isGuest_15 : decode cX9_isGuest 15 = .ok (.ireturn, 1) := by decide +kernel
theorem dX9_isHere_0 : decode cX9_isHere 0 = .ok (.aload_n 0, 1) := by decide +kernel
theorem dX9_isHere_1 : decode cX9_isHere 1 = .ok (.iload_n 1, 1) := by decide +kernel
theorem dX9_isHere_2 : decode cX9_isHere 2 = .ok (.invokevirtual 154, 3) := by decide +kernel
theorem dX9_isHere_5 : decode cX9_isHere 5 = .ok (.ifCond .eq 17, 3) := by decide +kernel
theorem dX9_isHere_8 : decode cX9_isHere 8 = .ok (.aload_n 0, 1) := by decide +kernel
theorem dX9_isHere_9 : decode cX9_isHere 9 = .ok (.getfield 16, 3) := by decide +kernel
theorem dX9_isHere_12 : decode cX9_isHere 12 = .ok (.iload_n 1, 1) := by decide +kernel
theorem dX9_isHere_13 : decode cX9_isHere 13 = .ok (.iaload, 1) := by decide +kernel
theorem dX9_isHere_14 : decode cX9_isHere 14 = .ok (.iconst (-1), 1) := by decide +kernel
theorem dX9_isHere_15 : decode cX9_isHere 15 = .ok (.if_icmp .eq 7, 3) := by decide +kernel
theorem dX9_isHere_18 : decode cX9_isHere 18 = .ok (.iconst 1, 1) := by decide +kernel
theorem dX9_isHere_19 : decode cX9_isHere 19 = .ok (.goto 4, 3) := by decide +kernel
theorem dX9_isHere_22 : decode cX9_isHere 22 = .ok (.iconst 0, 1) := by decide +kernel
theorem dX9_isHere_23 : decode cX9_isHere 23 = .ok (.ireturn, 1) := by decide +kernel
theorem dX9_whoAt_0 : decode cX9_whoAt 0 = .ok (.iconst 0, 1) := by decide +kernel
theorem dX9_whoAt_1 : decode cX9_whoAt 1 = .ok (.istore_n 2, 1) := by decide +kernel
theorem dX9_whoAt_2 : decode cX9_whoAt 2 = .ok (.iload_n 2, 1) := by decide +kernel
theorem dX9_whoAt_3 : decode cX9_whoAt 3 = .ok (.aload_n 0, 1) := by decide +kernel
theorem dX9_whoAt_4 : decode cX9_whoAt 4 = .ok (.getfield 7, 3) := by decide +kernel
theorem dX9_whoAt_7 : decode cX9_whoAt 7 = .ok (.iconst 2, 1) := by decide +kernel
theorem dX9_whoAt_8 : decode cX9_whoAt 8 = .ok (.iaload, 1) := by decide +kernel
theorem dX9_whoAt_9 : decode cX9_whoAt 9 = .ok (.if_icmp .ge 21, 3) := by decide +kernel
theorem dX9_whoAt_12 : decode cX9_whoAt 12 = .ok (.aload_n 0, 1) := by decide +kernel
theorem dX9_whoAt_13 : decode cX9_whoAt 13 = .ok (.getfield 16, 3) := by decide +kernel
theorem dX9_whoAt_16 : decode cX9_whoAt 16 = .ok (.iload_n 2, 1) := by decide +kernel
theorem dX9_whoAt_17 : decode cX9_whoAt 17 = .ok (.iaload, 1) := by decide +kernel
theorem dX9_whoAt_18 : decode cX9_whoAt 18 = .ok (.iload_n 1, 1) := by decide +kernel
theorem dX9_whoAt_19 : decode cX9_whoAt 19 = .ok (.if_icmp .ne 5, 3) := by decide +kernel
theorem dX9_whoAt_22 : decode cX9_whoAt 22 = .ok (.iload_n 2, 1) := by decide +kernel
theorem dX9_whoAt_23 : decode cX9_whoAt 23 = .ok (.ireturn, 1) := by decide +kernel
theorem dX9_whoAt_24 : decode cX9_whoAt 24 = .ok (.iinc 2 1, 3) := by decide +kernel
theorem dX9_whoAt_27 : decode cX9_whoAt 27 = .ok (.goto (-25), 3) := by decide +kernel
theorem dX9_whoAt_30 : decode cX9_whoAt 30 = .ok (.iconst (-1), 1) := by decide +kernel
theorem dX9_whoAt_31 : decode cX9_whoAt 31 = .ok (.ireturn, 1) := by decide +kernel
theorem dX9_edge_0 : decode cX9_edge 0 = .ok (.iload_n 1, 1) := by decide +kernel
theorem dX9_edge_1 : decode cX9_edge 1 = .ok (.bipush 10, 2) := by decide +kernel
theorem dX9_edge_3 : decode cX9_edge 3 = .ok (.irem, 1) := by decide +kernel
theorem dX9_edge_4 : decode cX9_edge 4 = .ok (.istore_n 2, 1) := by decide +kernel
theorem dX9_edge_5 : decode cX9_edge 5 = .ok (.iload_n 1, 1) := by decide +kernel
theorem dX9_edge_6 : decode cX9_edge 6 = .ok (.bipush 10, 2) := by decide +kernel
theorem dX9_edge_8 : decode cX9_edge 8 = .ok (.idiv, 1) := by decide +kernel
theorem dX9_edge_9 : decode cX9_edge 9 = .ok (.istore_n 3, 1) := by decide +kernel
theorem dX9_edge_10 : decode cX9_edge 10 = .ok (.iload_n 2, 1) := by decide +kernel
theorem dX9_edge_11 : decode cX9_edge 11 = .ok (.iload_n 3, 1) := by decide +kernel
theorem dX9_edge_12 : decode cX9_edge 12 = .ok (.if_icmp .ge 7, 3) := by decide +kernel
theorem dX9_edge_15 : decode cX9_edge 15 = .ok (.iload_n 2, 1) := by decide +kernel
theorem dX9_edge_16 : decode cX9_edge 16 = .ok (.goto 4, 3) := by decide +kernel
theorem dX9_edge_19 : decode cX9_edge 19 = .ok (.iload_n 3, 1) := by decide +kernel
theorem dX9_edge_20 : decode cX9_edge 20 = .ok (.istore 4, 2) := by decide +kernel
theorem dX9_edge_22 : decode cX9_edge 22 = .ok (.aload_n 0, 1) := by decide +kernel
theorem dX9_edge_23 : decode cX9_edge 23 = .ok (.getfield 7, 3) := by decide +kernel
theorem dX9_edge_26 : decode cX9_edge 26 = .ok (.iconst 0, 1) := by decide +kernel
theorem dX9_edge_27 : decode cX9_edge 27 = .ok (.iaload, 1) := by decide +kernel
theorem dX9_edge_28 : decode cX9_edge 28 = .ok (.iconst 1, 1) := by decide +kernel
theorem dX9_edge_29 : decode cX9_edge 29 = .ok (.isub, 1) := by decide +kernel
theorem dX9_edge_30 : decode cX9_edge 30 = .ok (.iload_n 2, 1) := by decide +kernel
theorem dX9_edge_31 : decode cX9_edge 31 = .ok (.isub, 1) := by decide +kernel
theorem dX9_edge_32 : decode cX9_edge 32 = .ok (.istore 5, 2) := by decide +kernel
theorem dX9_edge_34 : decode cX9_edge 34 = .ok (.aload_n 0, 1) := by decide +kernel
theorem dX9_edge_35 : decode cX9_edge 35 = .ok (.getfield 7, 3) := by decide +kernel
theorem dX9_edge_38 : decode cX9_edge 38 = .ok (.iconst 1, 1) := by decide +kernel
theorem dX9_edge_39 : decode cX9_edge 39 = .ok (.iaload, 1) := by decide +kernel
theorem dX9_edge_40 : decode cX9_edge 40 = .ok (.iconst 1, 1) := by decide +kernel
theorem dX9_edge_41 : decode cX9_edge 41 = .ok (.isub, 1) := by decide +kernel
theorem dX9_edge_42 : decode cX9_edge 42 = .ok (.iload_n 3, 1) := by decide +kernel
theorem dX9_edge_43 : decode cX9_edge 43 = .ok (.isub, 1) := by decide +kernel
theorem dX9_edge_44 : decode cX9_edge 44 = .ok (.istore 6, 2) := by decide +kernel
theorem dX9_edge_46 : decode cX9_edge 46 = .ok (.iload 5, 2) := by decide +kernel
theorem dX9_edge_48 : decode cX9_edge 48 = .ok (.iload 6, 2) := by decide +kernel
theorem dX9_edge_50 : decode cX9_edge 50 = .ok (.if_icmp .ge 8, 3) := by decide +kernel
theorem dX9_edge_53 : decode cX9_edge 53 = .ok (.iload 5, 2) := by decide +kernel
theorem dX9_edge_55 : decode cX9_edge 55 = .ok (.goto 5, 3) := by decide +kernel
theorem dX9_edge_58 : decode cX9_edge 58 = .ok (.iload 6, 2) := by decide +kernel
theorem dX9_edge_60 : decode cX9_edge 60 = .ok (.istore 7, 2) := by decide +kernel
theorem dX9_edge_62 : decode cX9_edge 62 = .ok (.iload 4, 2) := by decide +kernel
theorem dX9_edge_64 : decode cX9_edge 64 = .ok (.iload 7, 2) := by decide +kernel
theorem dX9_edge_66 : decode cX9_edge 66 = .ok (.if_icmp .ge 8, 3) := by decide +kernel
theorem dX9_edge_69 : decode cX9_edge 69 = .ok (.iload 4, 2) := by decide +kernel
theorem dX9_edge_71 : decode cX9_edge 71 = .ok (.goto 5, 3) := by decide +kernel
theorem dX9_edge_74 : decode cX9_edge 74 = .ok (.iload 7, 2) := by decide +kernel
theorem dX9_edge_76 : decode cX9_edge 76 = .ok (.ireturn, 1) := by decide +kernel
theorem dX9_allHeat_0 : decode cX9_allHeat 0 = .ok (.iconst 0, 1) := by decide +kernel
theorem dX9_allHeat_1 : decode cX9_allHeat 1 = .ok (.istore_n 1, 1) := by decide +kernel
theorem dX9_allHeat_2 : decode cX9_allHeat 2 = .ok (.iconst 0, 1) := by decide +kernel
theorem dX9_allHeat_3 : decode cX9_allHeat 3 = .ok (.istore_n 2, 1) := by decide +kernel
theorem dX9_allHeat_4 : decode cX9_allHeat 4 = .ok (.iload_n 2, 1) := by decide +kernel
theorem dX9_allHeat_5 : decode cX9_allHeat 5 = .ok (.bipush 80, 2) := by decide +kernel
theorem dX9_allHeat_7 : decode cX9_allHeat 7 = .ok (.if_icmp .ge 18, 3) := by decide +kernel
theorem dX9_allHeat_10 : decode cX9_allHeat 10 = .ok (.iload_n 1, 1) := by decide +kernel
theorem dX9_allHeat_11 : decode cX9_allHeat 11 = .ok (.aload_n 0, 1) := by decide +kernel
theorem dX9_allHeat_12 : decode cX9_allHeat 12 = .ok (.getfield 13, 3) := by decide +kernel
theorem dX9_allHeat_15 : decode cX9_allHeat 15 = .ok (.iload_n 2, 1) := by decide +kernel
theorem dX9_allHeat_16 : decode cX9_allHeat 16 = .ok (.iaload, 1) := by decide +kernel
theorem dX9_allHeat_17 : decode cX9_allHeat 17 = .ok (.iadd, 1) := by decide +kernel
theorem dX9_allHeat_18 : decode cX9_allHeat 18 = .ok (.istore_n 1, 1) := by decide +kernel
theorem dX9_allHeat_19 : decode cX9_allHeat 19 = .ok (.iinc 2 1, 3) := by decide +kernel
theorem dX9_allHeat_22 : decode cX9_allHeat 22 = .ok (.goto (-18), 3) := by decide +kernel
theorem dX9_allHeat_25 : decode cX9_allHeat 25 = .ok (.iload_n 1, 1) := by decide +kernel
theorem dX9_allHeat_26 : decode cX9_allHeat 26 = .ok (.ireturn, 1) := by decide +kernel
theorem dX9_feed_0 : decode cX9_feed 0 = .ok (.aload_n 0, 1) := by decide +kernel
theorem dX9_feed_1 : decode cX9_feed 1 = .ok (.getfield 158, 3) := by decide +kernel
theorem dX9_feed_4 : decode cX9_feed 4 = .ok (.bipush 20, 2) := by decide +kernel
theorem dX9_feed_6 : decode cX9_feed 6 = .ok (.iadd, 1) := by decide +kernel
theorem dX9_feed_7 : decode cX9_feed 7 = .ok (.sipush 400, 3) := by decide +kernel
theorem dX9_feed_10 : decode cX9_feed 10 = .ok (.if_icmp .le 5, 3) := by decide +kernel
theorem dX9_feed_13 : decode cX9_feed 13 = .ok (.iconst (-1), 1) := by decide +kernel
theorem dX9_feed_14 : decode cX9_feed 14 = .ok (.ireturn, 1) := by decide +kernel
theorem dX9_feed_15 : decode cX9_feed 15 = .ok (.aload_n 0, 1) := by decide +kernel
theorem dX9_feed_16 : decode cX9_feed 16 = .ok (.iload_n 1, 1) := by decide +kernel
theorem dX9_feed_17 : decode cX9_feed 17 = .ok (.invokevirtual 161, 3) := by decide +kernel
theorem dX9_feed_20 : decode cX9_feed 20 = .ok (.aload_n 0, 1) := by decide +kernel
theorem dX9_feed_21 : decode cX9_feed 21 = .ok (.iload_n 2, 1) := by decide +kernel
theorem dX9_feed_22 : decode cX9_feed 22 = .ok (.invokevirtual 161, 3) := by decide +kernel
theorem dX9_feed_25 : decode cX9_feed 25 = .ok (.aload_n 0, 1) := by decide +kernel
theorem dX9_feed_26 : decode cX9_feed 26 = .ok (.iload_n 3, 1) := by decide +kernel
theorem dX9_feed_27 : decode cX9_feed 27 = .ok (.invokevirtual 161, 3) := by decide +kernel
theorem dX9_feed_30 : decode cX9_feed 30 = .ok (.aload_n 0, 1) := by decide +kernel
theorem dX9_feed_31 : decode cX9_feed 31 = .ok (.iload 4, 2) := by decide +kernel
theorem dX9_feed_33 : decode cX9_feed 33 = .ok (.invokevirtual 161, 3) := by decide +kernel
theorem dX9_feed_36 : decode cX9_feed 36 = .ok (.aload_n 0, 1) := by decide +kernel
theorem dX9_feed_37 : decode cX9_feed 37 = .ok (.iload 5, 2) := by decide +kernel
theorem dX9_feed_39 : decode cX9_feed 39 = .ok (.invokevirtual 161, 3) := by decide +kernel
theorem dX9_feed_42 : decode cX9_feed 42 = .ok (.aload_n 0, 1) := by decide +kernel
theorem dX9_feed_43 : decode cX9_feed 43 = .ok (.getfield 158, 3) := by decide +kernel
theorem dX9_feed_46 : decode cX9_feed 46 = .ok (.ireturn, 1) := by decide +kernel
theorem dX9_put_0 : decode cX9_put 0 = .ok (.bipush 24, 2) := by decide +kernel
theorem dX9_put_2 : decode cX9_put 2 = .ok (.istore_n 2, 1) := by decide +kernel
theorem dX9_put_3 : decode cX9_put 3 = .ok (.iload_n 2, 1) := by decide +kernel
theorem dX9_put_4 : decode cX9_put 4 = .ok (.ifCond .lt 32, 3) := by decide +kernel
theorem dX9_put_7 : decode cX9_put 7 = .ok (.aload_n 0, 1) := by decide +kernel
theorem dX9_put_8 : decode cX9_put 8 = .ok (.getfield 80, 3) := by decide +kernel
theorem dX9_put_11 : decode cX9_put 11 = .ok (.aload_n 0, 1) := by decide +kernel
theorem dX9_put_12 : decode cX9_put 12 = .ok (.getfield 158, 3) := by decide +kernel
theorem dX9_put_15 : decode cX9_put 15 = .ok (.iload_n 1, 1) := by decide +kernel
theorem dX9_put_16 : decode cX9_put 16 = .ok (.iload_n 2, 1) := by decide +kernel
theorem dX9_put_17 : decode cX9_put 17 = .ok (.ishr, 1) := by decide +kernel
theorem dX9_put_18 : decode cX9_put 18 = .ok (.i2b, 1) := by decide +kernel
theorem dX9_put_19 : decode cX9_put 19 = .ok (.bastore, 1) := by decide +kernel
theorem dX9_put_20 : decode cX9_put 20 = .ok (.aload_n 0, 1) := by decide +kernel
theorem dX9_put_21 : decode cX9_put 21 = .ok (.dup, 1) := by decide +kernel
theorem dX9_put_22 : decode cX9_put 22 = .ok (.getfield 158, 3) := by decide +kernel
theorem dX9_put_25 : decode cX9_put 25 = .ok (.iconst 1, 1) := by decide +kernel
theorem dX9_put_26 : decode cX9_put 26 = .ok (.iadd, 1) := by decide +kernel
theorem dX9_put_27 : decode cX9_put 27 = .ok (.putfield 158, 3) := by decide +kernel
theorem dX9_put_30 : decode cX9_put 30 = .ok (.iinc 2 (-8), 3) := by decide +kernel
theorem dX9_put_33 : decode cX9_put 33 = .ok (.goto (-30), 3) := by decide +kernel
theorem dX9_put_36 : decode cX9_put 36 = .ok (.return_, 1) := by decide +kernel
theorem dX9_end_0 : decode cX9_end 0 = .ok (.iload_n 1, 1) := by decide +kernel
theorem dX9_end_1 : decode cX9_end 1 = .ok (.ifCond .lt 11, 3) := by decide +kernel
theorem dX9_end_4 : decode cX9_end 4 = .ok (.iload_n 1, 1) := by decide +kernel
theorem dX9_end_5 : decode cX9_end 5 = .ok (.aload_n 0, 1) := by decide +kernel
theorem dX9_end_6 : decode cX9_end 6 = .ok (.getfield 158, 3) := by decide +kernel
theorem dX9_end_9 : decode cX9_end 9 = .ok (.if_icmp .le 5, 3) := by decide +kernel
theorem dX9_end_12 : decode cX9_end 12 = .ok (.iconst (-1), 1) := by decide +kernel
theorem dX9_end_13 : decode cX9_end 13 = .ok (.ireturn, 1) := by decide +kernel
theorem dX9_end_14 : decode cX9_end 14 = .ok (.aload_n 0, 1) := by decide +kernel
theorem dX9_end_15 : decode cX9_end 15 = .ok (.iload_n 1, 1) := by decide +kernel
theorem dX9_end_16 : decode cX9_end 16 = .ok (.putfield 158, 3) := by decide +kernel
theorem dX9_end_19 : decode cX9_end 19 = .ok (.iload_n 1, 1) := by decide +kernel
theorem dX9_end_20 : decode cX9_end 20 = .ok (.ireturn, 1) := by decide +kernel
theorem dX9_wordOf_0 : decode cX9_wordOf 0 = .ok (.iload_n 0, 1) := by decide +kernel
theorem dX9_wordOf_1 : decode cX9_wordOf 1 = .ok (.tableswitch 71 0 7 #[47, 50, 53, 56, 59, 62, 65, 68], 47) := by decide +kernel
theorem dX9_wordOf_48 : decode cX9_wordOf 48 = .ok (.ldc 165, 2) := by decide +kernel
theorem dX9_wordOf_50 : decode cX9_wordOf 50 = .ok (.areturn, 1) := by decide +kernel
theorem dX9_wordOf_51 : decode cX9_wordOf 51 = .ok (.ldc 166, 2) := by decide +kernel
theorem dX9_wordOf_53 : decode cX9_wordOf 53 = .ok (.areturn, 1) := by decide +kernel
theorem dX9_wordOf_54 : decode cX9_wordOf 54 = .ok (.ldc 168, 2) := by decide +kernel
theorem dX9_wordOf_56 : decode cX9_wordOf 56 = .ok (.areturn, 1) := by decide +kernel
theorem dX9_wordOf_57 : decode cX9_wordOf 57 = .ok (.ldc 170, 2) := by decide +kernel
theorem dX9_wordOf_59 : decode cX9_wordOf 59 = .ok (.areturn, 1) := by decide +kernel
theorem dX9_wordOf_60 : decode cX9_wordOf 60 = .ok (.ldc 172, 2) := by decide +kernel
theorem dX9_wordOf_62 : decode cX9_wordOf 62 = .ok (.areturn, 1) := by decide +kernel
theorem dX9_wordOf_63 : decode cX9_wordOf 63 = .ok (.ldc 174, 2) := by decide +kernel
theorem dX9_wordOf_65 : decode cX9_wordOf 65 = .ok (.areturn, 1) := by decide +kernel
theorem dX9_wordOf_66 : decode cX9_wordOf 66 = .ok (.ldc 176, 2) := by decide +kernel
