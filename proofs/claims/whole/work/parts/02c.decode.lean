theorem dX9_wordOf_68 : decode cX9_wordOf 68 = .ok (.areturn, 1) := by decide +kernel
theorem dX9_wordOf_69 : decode cX9_wordOf 69 = .ok (.ldc 178, 2) := by decide +kernel
theorem dX9_wordOf_71 : decode cX9_wordOf 71 = .ok (.areturn, 1) := by decide +kernel
theorem dX9_wordOf_72 : decode cX9_wordOf 72 = .ok (.ldc 180, 2) := by decide +kernel
theorem dX9_wordOf_74 : decode cX9_wordOf 74 = .ok (.areturn, 1) := by decide +kernel
theorem dX9_hallWord_0 : decode cX9_hallWord 0 = .ok (.iload_n 0, 1) := by decide +kernel
theorem dX9_hallWord_1 : decode cX9_hallWord 1 = .ok (.tableswitch 50 0 4 #[35, 38, 41, 44, 47], 35) := by decide +kernel
theorem dX9_hallWord_36 : decode cX9_hallWord 36 = .ok (.ldc 182, 2) := by decide +kernel
theorem dX9_hallWord_38 : decode cX9_hallWord 38 = .ok (.areturn, 1) := by decide +kernel
theorem dX9_hallWord_39 : decode cX9_hallWord 39 = .ok (.ldc 184, 2) := by decide +kernel
theorem dX9_hallWord_41 : decode cX9_hallWord 41 = .ok (.areturn, 1) := by decide +kernel
theorem dX9_hallWord_42 : decode cX9_hallWord 42 = .ok (.ldc 186, 2) := by decide +kernel
theorem dX9_hallWord_44 : decode cX9_hallWord 44 = .ok (.areturn, 1) := by decide +kernel
theorem dX9_hallWord_45 : decode cX9_hallWord 45 = .ok (.ldc 188, 2) := by decide +kernel
theorem dX9_hallWord_47 : decode cX9_hallWord 47 = .ok (.areturn, 1) := by decide +kernel
theorem dX9_hallWord_48 : decode cX9_hallWord 48 = .ok (.ldc 190, 2) := by decide +kernel
theorem dX9_hallWord_50 : decode cX9_hallWord 50 = .ok (.areturn, 1) := by decide +kernel
theorem dX9_hallWord_51 : decode cX9_hallWord 51 = .ok (.ldc 192, 2) := by decide +kernel
theorem dX9_hallWord_53 : decode cX9_hallWord 53 = .ok (.areturn, 1) := by decide +kernel
theorem dX9_fails_0 : decode cX9_fails 0 = .ok (.aload_n 0, 1) := by decide +kernel
theorem dX9_fails_1 : decode cX9_fails 1 = .ok (.aload_n 0, 1) := by decide +kernel
theorem dX9_fails_2 : decode cX9_fails 2 = .ok (.getfield 193, 3) := by decide +kernel
theorem dX9_fails_5 : decode cX9_fails 5 = .ok (.ifCond .ne 14, 3) := by decide +kernel
theorem dX9_fails_8 : decode cX9_fails 8 = .ok (.iconst 1, 1) := by decide +kernel
theorem dX9_fails_9 : decode cX9_fails 9 = .ok (.bipush 8, 2) := by decide +kernel
theorem dX9_fails_11 : decode cX9_fails 11 = .ok (.iload_n 2, 1) := by decide +kernel
theorem dX9_fails_12 : decode cX9_fails 12 = .ok (.imul, 1) := by decide +kernel
theorem dX9_fails_13 : decode cX9_fails 13 = .ok (.iadd, 1) := by decide +kernel
theorem dX9_fails_14 : decode cX9_fails 14 = .ok (.iload_n 1, 1) := by decide +kernel
theorem dX9_fails_15 : decode cX9_fails 15 = .ok (.iadd, 1) := by decide +kernel
theorem dX9_fails_16 : decode cX9_fails 16 = .ok (.goto 7, 3) := by decide +kernel
theorem dX9_fails_19 : decode cX9_fails 19 = .ok (.aload_n 0, 1) := by decide +kernel
theorem dX9_fails_20 : decode cX9_fails 20 = .ok (.getfield 193, 3) := by decide +kernel
theorem dX9_fails_23 : decode cX9_fails 23 = .ok (.putfield 193, 3) := by decide +kernel
theorem dX9_fails_26 : decode cX9_fails 26 = .ok (.return_, 1) := by decide +kernel
theorem dX9_sign_0 : decode cX9_sign 0 = .ok (.aload_n 0, 1) := by decide +kernel
theorem dX9_sign_1 : decode cX9_sign 1 = .ok (.getfield 196, 3) := by decide +kernel
theorem dX9_sign_4 : decode cX9_sign 4 = .ok (.aload_n 0, 1) := by decide +kernel
theorem dX9_sign_5 : decode cX9_sign 5 = .ok (.getfield 158, 3) := by decide +kernel
theorem dX9_sign_8 : decode cX9_sign 8 = .ok (.if_icmp .ge 19, 3) := by decide +kernel
theorem dX9_sign_11 : decode cX9_sign 11 = .ok (.aload_n 0, 1) := by decide +kernel
theorem dX9_sign_12 : decode cX9_sign 12 = .ok (.getfield 80, 3) := by decide +kernel
theorem dX9_sign_15 : decode cX9_sign 15 = .ok (.aload_n 0, 1) := by decide +kernel
theorem dX9_sign_16 : decode cX9_sign 16 = .ok (.getfield 196, 3) := by decide +kernel
theorem dX9_sign_19 : decode cX9_sign 19 = .ok (.baload, 1) := by decide +kernel
theorem dX9_sign_20 : decode cX9_sign 20 = .ok (.sipush 255, 3) := by decide +kernel
theorem dX9_sign_23 : decode cX9_sign 23 = .ok (.iand, 1) := by decide +kernel
theorem dX9_sign_24 : decode cX9_sign 24 = .ok (.goto 4, 3) := by decide +kernel
theorem dX9_sign_27 : decode cX9_sign 27 = .ok (.iconst (-1), 1) := by decide +kernel
theorem dX9_sign_28 : decode cX9_sign 28 = .ok (.ireturn, 1) := by decide +kernel
theorem dX9_blanks_0 : decode cX9_blanks 0 = .ok (.aload_n 0, 1) := by decide +kernel
theorem dX9_blanks_1 : decode cX9_blanks 1 = .ok (.invokevirtual 199, 3) := by decide +kernel
theorem dX9_blanks_4 : decode cX9_blanks 4 = .ok (.bipush 32, 2) := by decide +kernel
theorem dX9_blanks_6 : decode cX9_blanks 6 = .ok (.if_icmp .ne 16, 3) := by decide +kernel
theorem dX9_blanks_9 : decode cX9_blanks 9 = .ok (.aload_n 0, 1) := by decide +kernel
theorem dX9_blanks_10 : decode cX9_blanks 10 = .ok (.dup, 1) := by decide +kernel
theorem dX9_blanks_11 : decode cX9_blanks 11 = .ok (.getfield 196, 3) := by decide +kernel
theorem dX9_blanks_14 : decode cX9_blanks 14 = .ok (.iconst 1, 1) := by decide +kernel
theorem dX9_blanks_15 : decode cX9_blanks 15 = .ok (.iadd, 1) := by decide +kernel
theorem dX9_blanks_16 : decode cX9_blanks 16 = .ok (.putfield 196, 3) := by decide +kernel
theorem dX9_blanks_19 : decode cX9_blanks 19 = .ok (.goto (-19), 3) := by decide +kernel
theorem dX9_blanks_22 : decode cX9_blanks 22 = .ok (.return_, 1) := by decide +kernel
theorem dX9_isDigit_0 : decode cX9_isDigit 0 = .ok (.aload_n 0, 1) := by decide +kernel
theorem dX9_isDigit_1 : decode cX9_isDigit 1 = .ok (.invokevirtual 199, 3) := by decide +kernel
theorem dX9_isDigit_4 : decode cX9_isDigit 4 = .ok (.i2l, 1) := by decide +kernel
theorem dX9_isDigit_5 : decode cX9_isDigit 5 = .ok (.ldc2_w 203, 3) := by decide +kernel
theorem dX9_isDigit_8 : decode cX9_isDigit 8 = .ok (.ldc2_w 205, 3) := by decide +kernel
theorem dX9_isDigit_11 : decode cX9_isDigit 11 = .ok (.invokestatic 146, 3) := by decide +kernel
theorem dX9_isDigit_14 : decode cX9_isDigit 14 = .ok (.ireturn, 1) := by decide +kernel
theorem dX9_stood_0 : decode cX9_stood 0 = .ok (.aload_n 0, 1) := by decide +kernel
theorem dX9_stood_1 : decode cX9_stood 1 = .ok (.getfield 196, 3) := by decide +kernel
theorem dX9_stood_4 : decode cX9_stood 4 = .ok (.istore_n 2, 1) := by decide +kernel
theorem dX9_stood_5 : decode cX9_stood 5 = .ok (.iload_n 2, 1) := by decide +kernel
theorem dX9_stood_6 : decode cX9_stood 6 = .ok (.aload_n 0, 1) := by decide +kernel
theorem dX9_stood_7 : decode cX9_stood 7 = .ok (.getfield 158, 3) := by decide +kernel
theorem dX9_stood_10 : decode cX9_stood 10 = .ok (.if_icmp .ge 31, 3) := by decide +kernel
theorem dX9_stood_13 : decode cX9_stood 13 = .ok (.aload_n 0, 1) := by decide +kernel
theorem dX9_stood_14 : decode cX9_stood 14 = .ok (.getfield 80, 3) := by decide +kernel
theorem dX9_stood_17 : decode cX9_stood 17 = .ok (.iload_n 2, 1) := by decide +kernel
theorem dX9_stood_18 : decode cX9_stood 18 = .ok (.baload, 1) := by decide +kernel
theorem dX9_stood_19 : decode cX9_stood 19 = .ok (.bipush 97, 2) := by decide +kernel
theorem dX9_stood_21 : decode cX9_stood 21 = .ok (.if_icmp .lt 20, 3) := by decide +kernel
theorem dX9_stood_24 : decode cX9_stood 24 = .ok (.aload_n 0, 1) := by decide +kernel
theorem dX9_stood_25 : decode cX9_stood 25 = .ok (.getfield 80, 3) := by decide +kernel
theorem dX9_stood_28 : decode cX9_stood 28 = .ok (.iload_n 2, 1) := by decide +kernel
theorem dX9_stood_29 : decode cX9_stood 29 = .ok (.baload, 1) := by decide +kernel
theorem dX9_stood_30 : decode cX9_stood 30 = .ok (.bipush 122, 2) := by decide +kernel
theorem dX9_stood_32 : decode cX9_stood 32 = .ok (.if_icmp .gt 9, 3) := by decide +kernel
theorem dX9_stood_35 : decode cX9_stood 35 = .ok (.iinc 2 1, 3) := by decide +kernel
theorem dX9_stood_38 : decode cX9_stood 38 = .ok (.goto (-33), 3) := by decide +kernel
theorem dX9_stood_41 : decode cX9_stood 41 = .ok (.iload_n 2, 1) := by decide +kernel
theorem dX9_stood_42 : decode cX9_stood 42 = .ok (.aload_n 0, 1) := by decide +kernel
theorem dX9_stood_43 : decode cX9_stood 43 = .ok (.getfield 196, 3) := by decide +kernel
theorem dX9_stood_46 : decode cX9_stood 46 = .ok (.isub, 1) := by decide +kernel
theorem dX9_stood_47 : decode cX9_stood 47 = .ok (.aload_n 1, 1) := by decide +kernel
theorem dX9_stood_48 : decode cX9_stood 48 = .ok (.invokevirtual 207, 3) := by decide +kernel
theorem dX9_stood_51 : decode cX9_stood 51 = .ok (.if_icmp .ne 7, 3) := by decide +kernel
theorem dX9_stood_54 : decode cX9_stood 54 = .ok (.iconst 1, 1) := by decide +kernel
theorem dX9_stood_55 : decode cX9_stood 55 = .ok (.goto 4, 3) := by decide +kernel
theorem dX9_stood_58 : decode cX9_stood 58 = .ok (.iconst 0, 1) := by decide +kernel
theorem dX9_stood_59 : decode cX9_stood 59 = .ok (.istore_n 3, 1) := by decide +kernel
theorem dX9_stood_60 : decode cX9_stood 60 = .ok (.iconst 0, 1) := by decide +kernel
theorem dX9_stood_61 : decode cX9_stood 61 = .ok (.istore 4, 2) := by decide +kernel
theorem dX9_stood_63 : decode cX9_stood 63 = .ok (.iload 4, 2) := by decide +kernel
theorem dX9_stood_65 : decode cX9_stood 65 = .ok (.aload_n 1, 1) := by decide +kernel
theorem dX9_stood_66 : decode cX9_stood 66 = .ok (.invokevirtual 207, 3) := by decide +kernel
theorem dX9_stood_69 : decode cX9_stood 69 = .ok (.if_icmp .ge 40, 3) := by decide +kernel
theorem dX9_stood_72 : decode cX9_stood 72 = .ok (.iload_n 3, 1) := by decide +kernel
theorem dX9_stood_73 : decode cX9_stood 73 = .ok (.ifCond .eq 36, 3) := by decide +kernel
theorem dX9_stood_76 : decode cX9_stood 76 = .ok (.aload_n 0, 1) := by decide +kernel
theorem dX9_stood_77 : decode cX9_stood 77 = .ok (.getfield 80, 3) := by decide +kernel
theorem dX9_stood_80 : decode cX9_stood 80 = .ok (.aload_n 0, 1) := by decide +kernel
theorem dX9_stood_81 : decode cX9_stood 81 = .ok (.getfield 196, 3) := by decide +kernel
theorem dX9_stood_84 : decode cX9_stood 84 = .ok (.iload 4, 2) := by decide +kernel
theorem dX9_stood_86 : decode cX9_stood 86 = .ok (.iadd, 1) := by decide +kernel
theorem dX9_stood_87 : decode cX9_stood 87 = .ok (.baload, 1) := by decide +kernel
theorem dX9_stood_88 : decode cX9_stood 88 = .ok (.aload_n 1, 1) := by decide +kernel
theorem dX9_stood_89 : decode cX9_stood 89 = .ok (.iload 4, 2) := by decide +kernel
theorem dX9_stood_91 : decode cX9_stood 91 = .ok (.invokevirtual 212, 3) := by decide +kernel
theorem dX9_stood_94 : decode cX9_stood 94 = .ok (.if_icmp .ne 7, 3) := by decide +kernel
theorem dX9_stood_97 : decode cX9_stood 97 = .ok (.iconst 1, 1) := by decide +kernel
theorem dX9_stood_98 : decode cX9_stood 98 = .ok (.goto 4, 3) := by decide +kernel
theorem dX9_stood_101 : decode cX9_stood 101 = .ok (.iconst 0, 1) := by decide +kernel
theorem dX9_stood_102 : decode cX9_stood 102 = .ok (.istore_n 3, 1) := by decide +kernel
theorem dX9_stood_103 : decode cX9_stood 103 = .ok (.iinc 4 1, 3) := by decide +kernel
theorem dX9_stood_106 : decode cX9_stood 106 = .ok (.goto (-43), 3) := by decide +kernel
theorem dX9_stood_109 : decode cX9_stood 109 = .ok (.iload_n 3, 1) := by decide +kernel
theorem dX9_stood_110 : decode cX9_stood 110 = .ok (.ireturn, 1) := by decide +kernel
theorem dX9_takes_0 : decode cX9_takes 0 = .ok (.aload_n 0, 1) := by decide +kernel
theorem dX9_takes_1 : decode cX9_takes 1 = .ok (.invokevirtual 216, 3) := by decide +kernel
theorem dX9_takes_4 : decode cX9_takes 4 = .ok (.aload_n 0, 1) := by decide +kernel
theorem dX9_takes_5 : decode cX9_takes 5 = .ok (.aload_n 1, 1) := by decide +kernel
theorem dX9_takes_6 : decode cX9_takes 6 = .ok (.invokevirtual 219, 3) := by decide +kernel
theorem dX9_takes_9 : decode cX9_takes 9 = .ok (.istore_n 2, 1) := by decide +kernel
theorem dX9_takes_10 : decode cX9_takes 10 = .ok (.aload_n 0, 1) := by decide +kernel
theorem dX9_takes_11 : decode cX9_takes 11 = .ok (.dup, 1) := by decide +kernel
theorem dX9_takes_12 : decode cX9_takes 12 = .ok (.getfield 196, 3) := by decide +kernel
theorem dX9_takes_15 : decode cX9_takes 15 = .ok (.iload_n 2, 1) := by decide +kernel
theorem dX9_takes_16 : decode cX9_takes 16 = .ok (.ifCond .eq 10, 3) := by decide +kernel
theorem dX9_takes_19 : decode cX9_takes 19 = .ok (.aload_n 1, 1) := by decide +kernel
theorem dX9_takes_20 : decode cX9_takes 20 = .ok (.invokevirtual 207, 3) := by decide +kernel
theorem dX9_takes_23 : decode cX9_takes 23 = .ok (.goto 4, 3) := by decide +kernel
theorem dX9_takes_26 : decode cX9_takes 26 = .ok (.iconst 0, 1) := by decide +kernel
theorem dX9_takes_27 : decode cX9_takes 27 = .ok (.iadd, 1) := by decide +kernel
theorem dX9_takes_28 : decode cX9_takes 28 = .ok (.putfield 196, 3) := by decide +kernel
theorem dX9_takes_31 : decode cX9_takes 31 = .ok (.iload_n 2, 1) := by decide +kernel
theorem dX9_takes_32 : decode cX9_takes 32 = .ok (.ireturn, 1) := by decide +kernel
theorem dX9_entry_0 : decode cX9_entry 0 = .ok (.aload_n 0, 1) := by decide +kernel
theorem dX9_entry_1 : decode cX9_entry 1 = .ok (.getfield 193, 3) := by decide +kernel
theorem dX9_entry_4 : decode cX9_entry 4 = .ok (.ifCond .ne 51, 3) := by decide +kernel
theorem dX9_entry_7 : decode cX9_entry 7 = .ok (.aload_n 0, 1) := by decide +kernel
theorem dX9_entry_8 : decode cX9_entry 8 = .ok (.getfield 84, 3) := by decide +kernel
theorem dX9_entry_11 : decode cX9_entry 11 = .ok (.sipush 300, 3) := by decide +kernel
theorem dX9_entry_14 : decode cX9_entry 14 = .ok (.aload_n 0, 1) := by decide +kernel
theorem dX9_entry_15 : decode cX9_entry 15 = .ok (.getfield 223, 3) := by decide +kernel
theorem dX9_entry_18 : decode cX9_entry 18 = .ok (.imul, 1) := by decide +kernel
theorem dX9_entry_19 : decode cX9_entry 19 = .ok (.aload_n 0, 1) := by decide +kernel
theorem dX9_entry_20 : decode cX9_entry 20 = .ok (.getfield 226, 3) := by decide +kernel
theorem dX9_entry_23 : decode cX9_entry 23 = .ok (.iadd, 1) := by decide +kernel
theorem dX9_entry_24 : decode cX9_entry 24 = .ok (.iload_n 1, 1) := by decide +kernel
theorem dX9_entry_25 : decode cX9_entry 25 = .ok (.iastore, 1) := by decide +kernel
theorem dX9_entry_26 : decode cX9_entry 26 = .ok (.aload_n 0, 1) := by decide +kernel
theorem dX9_entry_27 : decode cX9_entry 27 = .ok (.getfield 87, 3) := by decide +kernel
theorem dX9_entry_30 : decode cX9_entry 30 = .ok (.sipush 300, 3) := by decide +kernel
theorem dX9_entry_33 : decode cX9_entry 33 = .ok (.aload_n 0, 1) := by decide +kernel
theorem dX9_entry_34 : decode cX9_entry 34 = .ok (.getfield 223, 3) := by decide +kernel
theorem dX9_entry_37 : decode cX9_entry 37 = .ok (.imul, 1) := by decide +kernel
theorem dX9_entry_38 : decode cX9_entry 38 = .ok (.aload_n 0, 1) := by decide +kernel
theorem dX9_entry_39 : decode cX9_entry 39 = .ok (.getfield 226, 3) := by decide +kernel
theorem dX9_entry_42 : decode cX9_entry 42 = .ok (.iadd, 1) := by decide +kernel
theorem dX9_entry_43 : decode cX9_entry 43 = .ok (.iload_n 2, 1) := by decide +kernel
theorem dX9_entry_44 : decode cX9_entry 44 = .ok (.iastore, 1) := by decide +kernel
theorem dX9_entry_45 : decode cX9_entry 45 = .ok (.aload_n 0, 1) := by decide +kernel
theorem dX9_entry_46 : decode cX9_entry 46 = .ok (.dup, 1) := by decide +kernel
theorem dX9_entry_47 : decode cX9_entry 47 = .ok (.getfield 226, 3) := by decide +kernel
theorem dX9_entry_50 : decode cX9_entry 50 = .ok (.iconst 1, 1) := by decide +kernel
theorem dX9_entry_51 : decode cX9_entry 51 = .ok (.iadd, 1) := by decide +kernel
theorem dX9_entry_52 : decode cX9_entry 52 = .ok (.putfield 226, 3) := by decide +kernel
theorem dX9_entry_55 : decode cX9_entry 55 = .ok (.return_, 1) := by decide +kernel
theorem dX9_isCounted_0 : decode cX9_isCounted 0 = .ok (.aload_n 0, 1) := by decide +kernel
theorem dX9_isCounted_1 : decode cX9_isCounted 1 = .ok (.getfield 229, 3) := by decide +kernel
theorem dX9_isCounted_4 : decode cX9_isCounted 4 = .ok (.bipush 60, 2) := by decide +kernel
theorem dX9_isCounted_6 : decode cX9_isCounted 6 = .ok (.if_icmp .ne 9, 3) := by decide +kernel
theorem dX9_isCounted_9 : decode cX9_isCounted 9 = .ok (.aload_n 0, 1) := by decide +kernel
theorem dX9_isCounted_10 : decode cX9_isCounted 10 = .ok (.iconst 3, 1) := by decide +kernel
theorem dX9_isCounted_11 : decode cX9_isCounted 11 = .ok (.iload_n 1, 1) := by decide +kernel
theorem dX9_isCounted_12 : decode cX9_isCounted 12 = .ok (.invokevirtual 232, 3) := by decide +kernel
theorem dX9_isCounted_15 : decode cX9_isCounted 15 = .ok (.aload_n 0, 1) := by decide +kernel
theorem dX9_isCounted_16 : decode cX9_isCounted 16 = .ok (.dup, 1) := by decide +kernel
theorem dX9_isCounted_17 : decode cX9_isCounted 17 = .ok (.getfield 229, 3) := by decide +kernel
theorem dX9_isCounted_20 : decode cX9_isCounted 20 = .ok (.iconst 1, 1) := by decide +kernel
theorem dX9_isCounted_21 : decode cX9_isCounted 21 = .ok (.iadd, 1) := by decide +kernel
theorem dX9_isCounted_22 : decode cX9_isCounted 22 = .ok (.putfield 229, 3) := by decide +kernel
theorem dX9_isCounted_25 : decode cX9_isCounted 25 = .ok (.return_, 1) := by decide +kernel
theorem dX9_digits_0 : decode cX9_digits 0 = .ok (.aload_n 0, 1) := by decide +kernel
theorem dX9_digits_1 : decode cX9_digits 1 = .ok (.invokevirtual 236, 3) := by decide +kernel
theorem dX9_digits_4 : decode cX9_digits 4 = .ok (.ifCond .ne 14, 3) := by decide +kernel
theorem dX9_digits_7 : decode cX9_digits 7 = .ok (.aload_n 0, 1) := by decide +kernel
theorem dX9_digits_8 : decode cX9_digits 8 = .ok (.iconst 0, 1) := by decide +kernel
theorem dX9_digits_9 : decode cX9_digits 9 = .ok (.aload_n 0, 1) := by decide +kernel
theorem dX9_digits_10 : decode cX9_digits 10 = .ok (.getfield 196, 3) := by decide +kernel
theorem dX9_digits_13 : decode cX9_digits 13 = .ok (.invokevirtual 232, 3) := by decide +kernel
theorem dX9_digits_16 : decode cX9_digits 16 = .ok (.iconst 0, 1) := by decide +kernel
theorem dX9_digits_17 : decode cX9_digits 17 = .ok (.ireturn, 1) := by decide +kernel
theorem dX9_digits_18 : decode cX9_digits 18 = .ok (.aload_n 0, 1) := by decide +kernel
theorem dX9_digits_19 : decode cX9_digits 19 = .ok (.getfield 196, 3) := by decide +kernel
theorem dX9_digits_22 : decode cX9_digits 22 = .ok (.istore_n 2, 1) := by decide +kernel
theorem dX9_digits_23 : decode cX9_digits 23 = .ok (.iconst 0, 1) := by decide +kernel
theorem dX9_digits_24 : decode cX9_digits 24 = .ok (.istore_n 3, 1) := by decide +kernel
theorem dX9_digits_25 : decode cX9_digits 25 = .ok (.aload_n 0, 1) := by decide +kernel
theorem dX9_digits_26 : decode cX9_digits 26 = .ok (.invokevirtual 236, 3) := by decide +kernel
theorem dX9_digits_29 : decode cX9_digits 29 = .ok (.ifCond .eq 43, 3) := by decide +kernel
theorem dX9_digits_32 : decode cX9_digits 32 = .ok (.aload_n 0, 1) := by decide +kernel
theorem dX9_digits_33 : decode cX9_digits 33 = .ok (.getfield 196, 3) := by decide +kernel
theorem dX9_digits_36 : decode cX9_digits 36 = .ok (.iload_n 2, 1) := by decide +kernel
theorem dX9_digits_37 : decode cX9_digits 37 = .ok (.isub, 1) := by decide +kernel
theorem dX9_digits_38 : decode cX9_digits 38 = .ok (.iconst 5, 1) := by decide +kernel
theorem dX9_digits_39 : decode cX9_digits 39 = .ok (.if_icmp .ge 18, 3) := by decide +kernel
theorem dX9_digits_42 : decode cX9_digits 42 = .ok (.bipush 10, 2) := by decide +kernel
theorem dX9_digits_44 : decode cX9_digits 44 = .ok (.iload_n 3, 1) := by decide +kernel
theorem dX9_digits_45 : decode cX9_digits 45 = .ok (.imul, 1) := by decide +kernel
theorem dX9_digits_46 : decode cX9_digits 46 = .ok (.aload_n 0, 1) := by decide +kernel
theorem dX9_digits_47 : decode cX9_digits 47 = .ok (.invokevirtual 199, 3) := by decide +kernel
theorem dX9_digits_50 : decode cX9_digits 50 = .ok (.iadd, 1) := by decide +kernel
theorem dX9_digits_51 : decode cX9_digits 51 = .ok (.bipush 48, 2) := by decide +kernel
theorem dX9_digits_53 : decode cX9_digits 53 = .ok (.isub, 1) := by decide +kernel
theorem dX9_digits_54 : decode cX9_digits 54 = .ok (.goto 4, 3) := by decide +kernel
theorem dX9_digits_57 : decode cX9_digits 57 = .ok (.iload_n 3, 1) := by decide +kernel
theorem dX9_digits_58 : decode cX9_digits 58 = .ok (.istore_n 3, 1) := by decide +kernel
theorem dX9_digits_59 : decode cX9_digits 59 = .ok (.aload_n 0, 1) := by decide +kernel
theorem dX9_digits_60 : decode cX9_digits 60 = .ok (.dup, 1) := by decide +kernel
theorem dX9_digits_61 : decode cX9_digits 61 = .ok (.getfield 196, 3) := by decide +kernel
theorem dX9_digits_64 : decode cX9_digits 64 = .ok (.iconst 1, 1) := by decide +kernel
theorem dX9_digits_65 : decode cX9_digits 65 = .ok (.iadd, 1) := by decide +kernel
theorem dX9_digits_66 : decode cX9_digits 66 = .ok (.putfield 196, 3) := by decide +kernel
theorem dX9_digits_69 : decode cX9_digits 69 = .ok (.goto (-44), 3) := by decide +kernel
theorem dX9_digits_72 : decode cX9_digits 72 = .ok (.aload_n 0, 1) := by decide +kernel
theorem dX9_digits_73 : decode cX9_digits 73 = .ok (.getfield 196, 3) := by decide +kernel
theorem dX9_digits_76 : decode cX9_digits 76 = .ok (.iload_n 2, 1) := by decide +kernel
theorem dX9_digits_77 : decode cX9_digits 77 = .ok (.isub, 1) := by decide +kernel
theorem dX9_digits_78 : decode cX9_digits 78 = .ok (.iconst 5, 1) := by decide +kernel
theorem dX9_digits_79 : decode cX9_digits 79 = .ok (.if_icmp .gt 8, 3) := by decide +kernel
theorem dX9_digits_82 : decode cX9_digits 82 = .ok (.iload_n 3, 1) := by decide +kernel
theorem dX9_digits_83 : decode cX9_digits 83 = .ok (.iload_n 1, 1) := by decide +kernel
theorem dX9_digits_84 : decode cX9_digits 84 = .ok (.if_icmp .le 9, 3) := by decide +kernel
theorem dX9_digits_87 : decode cX9_digits 87 = .ok (.aload_n 0, 1) := by decide +kernel
theorem dX9_digits_88 : decode cX9_digits 88 = .ok (.iconst 1, 1) := by decide +kernel
theorem dX9_digits_89 : decode cX9_digits 89 = .ok (.iload_n 2, 1) := by decide +kernel
theorem dX9_digits_90 : decode cX9_digits 90 = .ok (.invokevirtual 232, 3) := by decide +kernel
theorem dX9_digits_93 : decode cX9_digits 93 = .ok (.iload_n 3, 1) := by decide +kernel
theorem dX9_digits_94 : decode cX9_digits 94 = .ok (.ireturn, 1) := by decide +kernel
theorem dX9_value_0 : decode cX9_value 0 = .ok (.aload_n 0, 1) := by decide +kernel
theorem dX9_value_1 : decode cX9_value 1 = .ok (.invokevirtual 216, 3) := by decide +kernel
theorem dX9_value_4 : decode cX9_value 4 = .ok (.aload_n 0, 1) := by decide +kernel
theorem dX9_value_5 : decode cX9_value 5 = .ok (.getfield 196, 3) := by decide +kernel
theorem dX9_value_8 : decode cX9_value 8 = .ok (.istore_n 1, 1) := by decide +kernel
theorem dX9_value_9 : decode cX9_value 9 = .ok (.aload_n 0, 1) := by decide +kernel
theorem dX9_value_10 : decode cX9_value 10 = .ok (.invokevirtual 236, 3) := by decide +kernel
theorem dX9_value_13 : decode cX9_value 13 = .ok (.ifCond .eq 22, 3) := by decide +kernel
theorem dX9_value_16 : decode cX9_value 16 = .ok (.aload_n 0, 1) := by decide +kernel
theorem dX9_value_17 : decode cX9_value 17 = .ok (.ldc 240, 2) := by decide +kernel
theorem dX9_value_19 : decode cX9_value 19 = .ok (.invokevirtual 241, 3) := by decide +kernel
theorem dX9_value_22 : decode cX9_value 22 = .ok (.istore_n 2, 1) := by decide +kernel
theorem dX9_value_23 : decode cX9_value 23 = .ok (.aload_n 0, 1) := by decide +kernel
theorem dX9_value_24 : decode cX9_value 24 = .ok (.iload_n 1, 1) := by decide +kernel
theorem dX9_value_25 : decode cX9_value 25 = .ok (.invokevirtual 245, 3) := by decide +kernel
theorem dX9_value_28 : decode cX9_value 28 = .ok (.aload_n 0, 1) := by decide +kernel
theorem dX9_value_29 : decode cX9_value 29 = .ok (.iconst 0, 1) := by decide +kernel
theorem dX9_value_30 : decode cX9_value 30 = .ok (.iload_n 2, 1) := by decide +kernel
theorem dX9_value_31 : decode cX9_value 31 = .ok (.invokevirtual 248, 3) := by decide +kernel
theorem dX9_value_34 : decode cX9_value 34 = .ok (.return_, 1) := by decide +kernel
theorem dX9_value_35 : decode cX9_value 35 = .ok (.iconst 0, 1) := by decide +kernel
theorem dX9_value_36 : decode cX9_value 36 = .ok (.istore_n 2, 1) := by decide +kernel
theorem dX9_value_37 : decode cX9_value 37 = .ok (.iload_n 2, 1) := by decide +kernel
theorem dX9_value_38 : decode cX9_value 38 = .ok (.aload_n 0, 1) := by decide +kernel
theorem dX9_value_39 : decode cX9_value 39 = .ok (.getfield 76, 3) := by decide +kernel
theorem dX9_value_42 : decode cX9_value 42 = .ok (.if_icmp .ge 20, 3) := by decide +kernel
theorem dX9_value_45 : decode cX9_value 45 = .ok (.aload_n 0, 1) := by decide +kernel
theorem dX9_value_46 : decode cX9_value 46 = .ok (.iload_n 2, 1) := by decide +kernel
theorem dX9_value_47 : decode cX9_value 47 = .ok (.invokestatic 251, 3) := by decide +kernel
theorem dX9_value_50 : decode cX9_value 50 = .ok (.invokevirtual 219, 3) := by decide +kernel
theorem dX9_value_53 : decode cX9_value 53 = .ok (.ifCond .ne 9, 3) := by decide +kernel
theorem dX9_value_56 : decode cX9_value 56 = .ok (.iinc 2 1, 3) := by decide +kernel
theorem dX9_value_59 : decode cX9_value 59 = .ok (.goto (-22), 3) := by decide +kernel
theorem dX9_value_62 : decode cX9_value 62 = .ok (.iload_n 2, 1) := by decide +kernel
theorem dX9_value_63 : decode cX9_value 63 = .ok (.aload_n 0, 1) := by decide +kernel
theorem dX9_value_64 : decode cX9_value 64 = .ok (.getfield 76, 3) := by decide +kernel
theorem dX9_value_67 : decode cX9_value 67 = .ok (.if_icmp .ne 10, 3) := by decide +kernel
theorem dX9_value_70 : decode cX9_value 70 = .ok (.aload_n 0, 1) := by decide +kernel
theorem dX9_value_71 : decode cX9_value 71 = .ok (.iconst 0, 1) := by decide +kernel
theorem dX9_value_72 : decode cX9_value 72 = .ok (.iload_n 1, 1) := by decide +kernel
theorem dX9_value_73 : decode cX9_value 73 = .ok (.invokevirtual 232, 3) := by decide +kernel
theorem dX9_value_76 : decode cX9_value 76 = .ok (.return_, 1) := by decide +kernel
theorem dX9_value_77 : decode cX9_value 77 = .ok (.aload_n 0, 1) := by decide +kernel
theorem dX9_value_78 : decode cX9_value 78 = .ok (.iload_n 1, 1) := by decide +kernel
theorem dX9_value_79 : decode cX9_value 79 = .ok (.invokevirtual 245, 3) := by decide +kernel
theorem dX9_value_82 : decode cX9_value 82 = .ok (.aload_n 0, 1) := by decide +kernel
theorem dX9_value_83 : decode cX9_value 83 = .ok (.dup, 1) := by decide +kernel
theorem dX9_value_84 : decode cX9_value 84 = .ok (.getfield 196, 3) := by decide +kernel
theorem dX9_value_87 : decode cX9_value 87 = .ok (.iload_n 2, 1) := by decide +kernel
theorem dX9_value_88 : decode cX9_value 88 = .ok (.invokestatic 251, 3) := by decide +kernel
theorem dX9_value_91 : decode cX9_value 91 = .ok (.invokevirtual 207, 3) := by decide +kernel
theorem dX9_value_94 : decode cX9_value 94 = .ok (.iadd, 1) := by decide +kernel
theorem dX9_value_95 : decode cX9_value 95 = .ok (.putfield 196, 3) := by decide +kernel
theorem dX9_value_98 : decode cX9_value 98 = .ok (.aload_n 0, 1) := by decide +kernel
theorem dX9_value_99 : decode cX9_value 99 = .ok (.iconst 1, 1) := by decide +kernel
theorem dX9_value_100 : decode cX9_value 100 = .ok (.iload_n 2, 1) := by decide +kernel
theorem dX9_value_101 : decode cX9_value 101 = .ok (.invokevirtual 248, 3) := by decide +kernel
theorem dX9_value_104 : decode cX9_value 104 = .ok (.return_, 1) := by decide +kernel
theorem dX9_term_0 : decode cX9_term 0 = .ok (.aload_n 0, 1) := by decide +kernel
theorem dX9_term_1 : decode cX9_term 1 = .ok (.invokevirtual 255, 3) := by decide +kernel
theorem dX9_term_4 : decode cX9_term 4 = .ok (.aload_n 0, 1) := by decide +kernel
theorem dX9_term_5 : decode cX9_term 5 = .ok (.invokevirtual 216, 3) := by decide +kernel
theorem dX9_term_8 : decode cX9_term 8 = .ok (.aload_n 0, 1) := by decide +kernel
theorem dX9_term_9 : decode cX9_term 9 = .ok (.getfield 193, 3) := by decide +kernel
theorem dX9_term_12 : decode cX9_term 12 = .ok (.ifCond .ne 88, 3) := by decide +kernel
theorem dX9_term_15 : decode cX9_term 15 = .ok (.aload_n 0, 1) := by decide +kernel
theorem dX9_term_16 : decode cX9_term 16 = .ok (.invokevirtual 199, 3) := by decide +kernel
theorem dX9_term_19 : decode cX9_term 19 = .ok (.bipush 42, 2) := by decide +kernel
theorem dX9_term_21 : decode cX9_term 21 = .ok (.if_icmp .eq 21, 3) := by decide +kernel
theorem dX9_term_24 : decode cX9_term 24 = .ok (.aload_n 0, 1) := by decide +kernel
theorem dX9_term_25 : decode cX9_term 25 = .ok (.invokevirtual 199, 3) := by decide +kernel
theorem dX9_term_28 : decode cX9_term 28 = .ok (.bipush 47, 2) := by decide +kernel
theorem dX9_term_30 : decode cX9_term 30 = .ok (.if_icmp .eq 12, 3) := by decide +kernel
theorem dX9_term_33 : decode cX9_term 33 = .ok (.aload_n 0, 1) := by decide +kernel
theorem dX9_term_34 : decode cX9_term 34 = .ok (.invokevirtual 199, 3) := by decide +kernel
theorem dX9_term_37 : decode cX9_term 37 = .ok (.bipush 37, 2) := by decide +kernel
theorem dX9_term_39 : decode cX9_term 39 = .ok (.if_icmp .ne 61, 3) := by decide +kernel
theorem dX9_term_42 : decode cX9_term 42 = .ok (.aload_n 0, 1) := by decide +kernel
theorem dX9_term_43 : decode cX9_term 43 = .ok (.invokevirtual 199, 3) := by decide +kernel
theorem dX9_term_46 : decode cX9_term 46 = .ok (.bipush 42, 2) := by decide +kernel
theorem dX9_term_48 : decode cX9_term 48 = .ok (.if_icmp .ne 8, 3) := by decide +kernel
theorem dX9_term_51 : decode cX9_term 51 = .ok (.bipush 13, 2) := by decide +kernel
theorem dX9_term_53 : decode cX9_term 53 = .ok (.goto 19, 3) := by decide +kernel
theorem dX9_term_56 : decode cX9_term 56 = .ok (.aload_n 0, 1) := by decide +kernel
theorem dX9_term_57 : decode cX9_term 57 = .ok (.invokevirtual 199, 3) := by decide +kernel
theorem dX9_term_60 : decode cX9_term 60 = .ok (.bipush 47, 2) := by decide +kernel
theorem dX9_term_62 : decode cX9_term 62 = .ok (.if_icmp .ne 8, 3) := by decide +kernel
theorem dX9_term_65 : decode cX9_term 65 = .ok (.bipush 14, 2) := by decide +kernel
theorem dX9_term_67 : decode cX9_term 67 = .ok (.goto 5, 3) := by decide +kernel
theorem dX9_term_70 : decode cX9_term 70 = .ok (.bipush 15, 2) := by decide +kernel
theorem dX9_term_72 : decode cX9_term 72 = .ok (.istore_n 1, 1) := by decide +kernel
theorem dX9_term_73 : decode cX9_term 73 = .ok (.aload_n 0, 1) := by decide +kernel
theorem dX9_term_74 : decode cX9_term 74 = .ok (.dup, 1) := by decide +kernel
theorem dX9_term_75 : decode cX9_term 75 = .ok (.getfield 196, 3) := by decide +kernel
theorem dX9_term_78 : decode cX9_term 78 = .ok (.iconst 1, 1) := by decide +kernel
theorem dX9_term_79 : decode cX9_term 79 = .ok (.iadd, 1) := by decide +kernel
theorem dX9_term_80 : decode cX9_term 80 = .ok (.putfield 196, 3) := by decide +kernel
theorem dX9_term_83 : decode cX9_term 83 = .ok (.aload_n 0, 1) := by decide +kernel
theorem dX9_term_84 : decode cX9_term 84 = .ok (.invokevirtual 255, 3) := by decide +kernel
theorem dX9_term_87 : decode cX9_term 87 = .ok (.aload_n 0, 1) := by decide +kernel
theorem dX9_term_88 : decode cX9_term 88 = .ok (.iload_n 1, 1) := by decide +kernel
theorem dX9_term_89 : decode cX9_term 89 = .ok (.iconst 0, 1) := by decide +kernel
theorem dX9_term_90 : decode cX9_term 90 = .ok (.invokevirtual 248, 3) := by decide +kernel
theorem dX9_term_93 : decode cX9_term 93 = .ok (.aload_n 0, 1) := by decide +kernel
theorem dX9_term_94 : decode cX9_term 94 = .ok (.invokevirtual 216, 3) := by decide +kernel
theorem dX9_term_97 : decode cX9_term 97 = .ok (.goto (-89), 3) := by decide +kernel
theorem dX9_term_100 : decode cX9_term 100 = .ok (.return_, 1) := by decide +kernel
theorem dX9_sum_0 : decode cX9_sum 0 = .ok (.aload_n 0, 1) := by decide +kernel
theorem dX9_sum_1 : decode cX9_sum 1 = .ok (.invokevirtual 258, 3) := by decide +kernel
theorem dX9_sum_4 : decode cX9_sum 4 = .ok (.aload_n 0, 1) := by decide +kernel
theorem dX9_sum_5 : decode cX9_sum 5 = .ok (.getfield 193, 3) := by decide +kernel
theorem dX9_sum_8 : decode cX9_sum 8 = .ok (.ifCond .ne 59, 3) := by decide +kernel
theorem dX9_sum_11 : decode cX9_sum 11 = .ok (.aload_n 0, 1) := by decide +kernel
theorem dX9_sum_12 : decode cX9_sum 12 = .ok (.invokevirtual 199, 3) := by decide +kernel
theorem dX9_sum_15 : decode cX9_sum 15 = .ok (.bipush 43, 2) := by decide +kernel
theorem dX9_sum_17 : decode cX9_sum 17 = .ok (.if_icmp .eq 12, 3) := by decide +kernel
theorem dX9_sum_20 : decode cX9_sum 20 = .ok (.aload_n 0, 1) := by decide +kernel
theorem dX9_sum_21 : decode cX9_sum 21 = .ok (.invokevirtual 199, 3) := by decide +kernel
theorem dX9_sum_24 : decode cX9_sum 24 = .ok (.bipush 45, 2) := by decide +kernel
theorem dX9_sum_26 : decode cX9_sum 26 = .ok (.if_icmp .ne 41, 3) := by decide +kernel
theorem dX9_sum_29 : decode cX9_sum 29 = .ok (.aload_n 0, 1) := by decide +kernel
theorem dX9_sum_30 : decode cX9_sum 30 = .ok (.invokevirtual 199, 3) := by decide +kernel
theorem dX9_sum_33 : decode cX9_sum 33 = .ok (.bipush 43, 2) := by decide +kernel
theorem dX9_sum_35 : decode cX9_sum 35 = .ok (.if_icmp .ne 7, 3) := by decide +kernel
theorem dX9_sum_38 : decode cX9_sum 38 = .ok (.iconst 2, 1) := by decide +kernel
theorem dX9_sum_39 : decode cX9_sum 39 = .ok (.goto 4, 3) := by decide +kernel
theorem dX9_sum_42 : decode cX9_sum 42 = .ok (.iconst 3, 1) := by decide +kernel
theorem dX9_sum_43 : decode cX9_sum 43 = .ok (.istore_n 1, 1) := by decide +kernel
theorem dX9_sum_44 : decode cX9_sum 44 = .ok (.aload_n 0, 1) := by decide +kernel
theorem dX9_sum_45 : decode cX9_sum 45 = .ok (.dup, 1) := by decide +kernel
theorem dX9_sum_46 : decode cX9_sum 46 = .ok (.getfield 196, 3) := by decide +kernel
theorem dX9_sum_49 : decode cX9_sum 49 = .ok (.iconst 1, 1) := by decide +kernel
theorem dX9_sum_50 : decode cX9_sum 50 = .ok (.iadd, 1) := by decide +kernel
theorem dX9_sum_51 : decode cX9_sum 51 = .ok (.putfield 196, 3) := by decide +kernel
theorem dX9_sum_54 : decode cX9_sum 54 = .ok (.aload_n 0, 1) := by decide +kernel
theorem dX9_sum_55 : decode cX9_sum 55 = .ok (.invokevirtual 258, 3) := by decide +kernel
theorem dX9_sum_58 : decode cX9_sum 58 = .ok (.aload_n 0, 1) := by decide +kernel
theorem dX9_sum_59 : decode cX9_sum 59 = .ok (.iload_n 1, 1) := by decide +kernel
theorem dX9_sum_60 : decode cX9_sum 60 = .ok (.iconst 0, 1) := by decide +kernel
theorem dX9_sum_61 : decode cX9_sum 61 = .ok (.invokevirtual 248, 3) := by decide +kernel
theorem dX9_sum_64 : decode cX9_sum 64 = .ok (.goto (-60), 3) := by decide +kernel
theorem dX9_sum_67 : decode cX9_sum 67 = .ok (.return_, 1) := by decide +kernel
theorem dX9_compared_0 : decode cX9_compared 0 = .ok (.aload_n 0, 1) := by decide +kernel
theorem dX9_compared_1 : decode cX9_compared 1 = .ok (.invokevirtual 261, 3) := by decide +kernel
theorem dX9_compared_4 : decode cX9_compared 4 = .ok (.aload_n 0, 1) := by decide +kernel
theorem dX9_compared_5 : decode cX9_compared 5 = .ok (.invokevirtual 199, 3) := by decide +kernel
theorem dX9_compared_8 : decode cX9_compared 8 = .ok (.istore_n 1, 1) := by decide +kernel
theorem dX9_compared_9 : decode cX9_compared 9 = .ok (.iload_n 1, 1) := by decide +kernel
theorem dX9_compared_10 : decode cX9_compared 10 = .ok (.bipush 60, 2) := by decide +kernel
theorem dX9_compared_12 : decode cX9_compared 12 = .ok (.if_icmp .eq 25, 3) := by decide +kernel
theorem dX9_compared_15 : decode cX9_compared 15 = .ok (.iload_n 1, 1) := by decide +kernel
theorem dX9_compared_16 : decode cX9_compared 16 = .ok (.bipush 61, 2) := by decide +kernel
theorem dX9_compared_18 : decode cX9_compared 18 = .ok (.if_icmp .eq 19, 3) := by decide +kernel
theorem dX9_compared_21 : decode cX9_compared 21 = .ok (.iload_n 1, 1) := by decide +kernel
theorem dX9_compared_22 : decode cX9_compared 22 = .ok (.bipush 62, 2) := by decide +kernel
theorem dX9_compared_24 : decode cX9_compared 24 = .ok (.if_icmp .eq 13, 3) := by decide +kernel
theorem dX9_compared_27 : decode cX9_compared 27 = .ok (.aload_n 0, 1) := by decide +kernel
theorem dX9_compared_28 : decode cX9_compared 28 = .ok (.iconst 0, 1) := by decide +kernel
theorem dX9_compared_29 : decode cX9_compared 29 = .ok (.aload_n 0, 1) := by decide +kernel
theorem dX9_compared_30 : decode cX9_compared 30 = .ok (.getfield 196, 3) := by decide +kernel
theorem dX9_compared_33 : decode cX9_compared 33 = .ok (.invokevirtual 232, 3) := by decide +kernel
theorem dX9_compared_36 : decode cX9_compared 36 = .ok (.return_, 1) := by decide +kernel
theorem dX9_compared_37 : decode cX9_compared 37 = .ok (.aload_n 0, 1) := by decide +kernel
theorem dX9_compared_38 : decode cX9_compared 38 = .ok (.aload_n 0, 1) := by decide +kernel
theorem dX9_compared_39 : decode cX9_compared 39 = .ok (.getfield 196, 3) := by decide +kernel
theorem dX9_compared_42 : decode cX9_compared 42 = .ok (.invokevirtual 245, 3) := by decide +kernel
theorem dX9_compared_45 : decode cX9_compared 45 = .ok (.aload_n 0, 1) := by decide +kernel
theorem dX9_compared_46 : decode cX9_compared 46 = .ok (.dup, 1) := by decide +kernel
theorem dX9_compared_47 : decode cX9_compared 47 = .ok (.getfield 196, 3) := by decide +kernel
theorem dX9_compared_50 : decode cX9_compared 50 = .ok (.iconst 1, 1) := by decide +kernel
theorem dX9_compared_51 : decode cX9_compared 51 = .ok (.iadd, 1) := by decide +kernel
theorem dX9_compared_52 : decode cX9_compared 52 = .ok (.putfield 196, 3) := by decide +kernel
theorem dX9_compared_55 : decode cX9_compared 55 = .ok (.iload_n 1, 1) := by decide +kernel
theorem dX9_compared_56 : decode cX9_compared 56 = .ok (.bipush 61, 2) := by decide +kernel
theorem dX9_compared_58 : decode cX9_compared 58 = .ok (.if_icmp .eq 16, 3) := by decide +kernel
theorem dX9_compared_61 : decode cX9_compared 61 = .ok (.aload_n 0, 1) := by decide +kernel
theorem dX9_compared_62 : decode cX9_compared 62 = .ok (.invokevirtual 199, 3) := by decide +kernel
theorem dX9_compared_65 : decode cX9_compared 65 = .ok (.bipush 61, 2) := by decide +kernel
theorem dX9_compared_67 : decode cX9_compared 67 = .ok (.if_icmp .ne 7, 3) := by decide +kernel
theorem dX9_compared_70 : decode cX9_compared 70 = .ok (.iconst 1, 1) := by decide +kernel
theorem dX9_compared_71 : decode cX9_compared 71 = .ok (.goto 4, 3) := by decide +kernel
theorem dX9_compared_74 : decode cX9_compared 74 = .ok (.iconst 0, 1) := by decide +kernel
theorem dX9_compared_75 : decode cX9_compared 75 = .ok (.istore_n 2, 1) := by decide +kernel
theorem dX9_compared_76 : decode cX9_compared 76 = .ok (.aload_n 0, 1) := by decide +kernel
theorem dX9_compared_77 : decode cX9_compared 77 = .ok (.dup, 1) := by decide +kernel
theorem dX9_compared_78 : decode cX9_compared 78 = .ok (.getfield 196, 3) := by decide +kernel
theorem dX9_compared_81 : decode cX9_compared 81 = .ok (.iload_n 2, 1) := by decide +kernel
theorem dX9_compared_82 : decode cX9_compared 82 = .ok (.ifCond .eq 7, 3) := by decide +kernel
theorem dX9_compared_85 : decode cX9_compared 85 = .ok (.iconst 1, 1) := by decide +kernel
theorem dX9_compared_86 : decode cX9_compared 86 = .ok (.goto 4, 3) := by decide +kernel
theorem dX9_compared_89 : decode cX9_compared 89 = .ok (.iconst 0, 1) := by decide +kernel
theorem dX9_compared_90 : decode cX9_compared 90 = .ok (.iadd, 1) := by decide +kernel
theorem dX9_compared_91 : decode cX9_compared 91 = .ok (.putfield 196, 3) := by decide +kernel
theorem dX9_compared_94 : decode cX9_compared 94 = .ok (.aload_n 0, 1) := by decide +kernel
theorem dX9_compared_95 : decode cX9_compared 95 = .ok (.invokevirtual 261, 3) := by decide +kernel
theorem dX9_compared_98 : decode cX9_compared 98 = .ok (.aload_n 0, 1) := by decide +kernel
theorem dX9_compared_99 : decode cX9_compared 99 = .ok (.iload_n 1, 1) := by decide +kernel
theorem dX9_compared_100 : decode cX9_compared 100 = .ok (.bipush 61, 2) := by decide +kernel
theorem dX9_compared_102 : decode cX9_compared 102 = .ok (.if_icmp .ne 8, 3) := by decide +kernel
theorem dX9_compared_105 : decode cX9_compared 105 = .ok (.bipush 6, 2) := by decide +kernel
theorem dX9_compared_107 : decode cX9_compared 107 = .ok (.goto 32, 3) := by decide +kernel
theorem dX9_compared_110 : decode cX9_compared 110 = .ok (.iload_n 1, 1) := by decide +kernel
theorem dX9_compared_111 : decode cX9_compared 111 = .ok (.bipush 60, 2) := by decide +kernel
theorem dX9_compared_113 : decode cX9_compared 113 = .ok (.if_icmp .ne 15, 3) := by decide +kernel
theorem dX9_compared_116 : decode cX9_compared 116 = .ok (.iload_n 2, 1) := by decide +kernel
theorem dX9_compared_117 : decode cX9_compared 117 = .ok (.ifCond .eq 7, 3) := by decide +kernel
theorem dX9_compared_120 : decode cX9_compared 120 = .ok (.iconst 5, 1) := by decide +kernel
theorem dX9_compared_121 : decode cX9_compared 121 = .ok (.goto 18, 3) := by decide +kernel
theorem dX9_compared_124 : decode cX9_compared 124 = .ok (.iconst 4, 1) := by decide +kernel
theorem dX9_compared_125 : decode cX9_compared 125 = .ok (.goto 14, 3) := by decide +kernel
theorem dX9_compared_128 : decode cX9_compared 128 = .ok (.iload_n 2, 1) := by decide +kernel
theorem dX9_compared_129 : decode cX9_compared 129 = .ok (.ifCond .eq 8, 3) := by decide +kernel
theorem dX9_compared_132 : decode cX9_compared 132 = .ok (.bipush 7, 2) := by decide +kernel
theorem dX9_compared_134 : decode cX9_compared 134 = .ok (.goto 5, 3) := by decide +kernel
theorem dX9_compared_137 : decode cX9_compared 137 = .ok (.bipush 8, 2) := by decide +kernel
theorem dX9_compared_139 : decode cX9_compared 139 = .ok (.iconst 0, 1) := by decide +kernel
theorem dX9_compared_140 : decode cX9_compared 140 = .ok (.invokevirtual 248, 3) := by decide +kernel
theorem dX9_compared_143 : decode cX9_compared 143 = .ok (.return_, 1) := by decide +kernel
theorem dX9_top_0 : decode cX9_top 0 = .ok (.aload_n 0, 1) := by decide +kernel
theorem dX9_top_1 : decode cX9_top 1 = .ok (.getfield 264, 3) := by decide +kernel
theorem dX9_top_4 : decode cX9_top 4 = .ok (.ifCond .ne 7, 3) := by decide +kernel
theorem dX9_top_7 : decode cX9_top 7 = .ok (.iconst (-1), 1) := by decide +kernel
theorem dX9_top_8 : decode cX9_top 8 = .ok (.goto 14, 3) := by decide +kernel
theorem dX9_top_11 : decode cX9_top 11 = .ok (.aload_n 0, 1) := by decide +kernel
theorem dX9_top_12 : decode cX9_top 12 = .ok (.getfield 102, 3) := by decide +kernel
theorem dX9_top_15 : decode cX9_top 15 = .ok (.aload_n 0, 1) := by decide +kernel
theorem dX9_top_16 : decode cX9_top 16 = .ok (.getfield 264, 3) := by decide +kernel
theorem dX9_top_19 : decode cX9_top 19 = .ok (.iconst 1, 1) := by decide +kernel
theorem dX9_top_20 : decode cX9_top 20 = .ok (.isub, 1) := by decide +kernel
theorem dX9_top_21 : decode cX9_top 21 = .ok (.iaload, 1) := by decide +kernel
theorem dX9_top_22 : decode cX9_top 22 = .ok (.ireturn, 1) := by decide +kernel
theorem dX9_opens_0 : decode cX9_opens 0 = .ok (.iload_n 1, 1) := by decide +kernel
theorem dX9_opens_1 : decode cX9_opens 1 = .ok (.bipush 9, 2) := by decide +kernel
theorem dX9_opens_3 : decode cX9_opens 3 = .ok (.if_icmp .eq 9, 3) := by decide +kernel
theorem dX9_opens_6 : decode cX9_opens 6 = .ok (.iload_n 1, 1) := by decide +kernel
theorem dX9_opens_7 : decode cX9_opens 7 = .ok (.bipush 12, 2) := by decide +kernel
theorem dX9_opens_9 : decode cX9_opens 9 = .ok (.if_icmp .ne 31, 3) := by decide +kernel
theorem dX9_opens_12 : decode cX9_opens 12 = .ok (.aload_n 0, 1) := by decide +kernel
theorem dX9_opens_13 : decode cX9_opens 13 = .ok (.getfield 267, 3) := by decide +kernel
theorem dX9_opens_16 : decode cX9_opens 16 = .ok (.bipush 10, 2) := by decide +kernel
theorem dX9_opens_18 : decode cX9_opens 18 = .ok (.if_icmp .ne 12, 3) := by decide +kernel
theorem dX9_opens_21 : decode cX9_opens 21 = .ok (.aload_n 0, 1) := by decide +kernel
theorem dX9_opens_22 : decode cX9_opens 22 = .ok (.iconst 2, 1) := by decide +kernel
theorem dX9_opens_23 : decode cX9_opens 23 = .ok (.aload_n 0, 1) := by decide +kernel
theorem dX9_opens_24 : decode cX9_opens 24 = .ok (.getfield 196, 3) := by decide +kernel
theorem dX9_opens_27 : decode cX9_opens 27 = .ok (.invokevirtual 232, 3) := by decide +kernel
theorem dX9_opens_30 : decode cX9_opens 30 = .ok (.aload_n 0, 1) := by decide +kernel
theorem dX9_opens_31 : decode cX9_opens 31 = .ok (.dup, 1) := by decide +kernel
theorem dX9_opens_32 : decode cX9_opens 32 = .ok (.getfield 267, 3) := by decide +kernel
theorem dX9_opens_35 : decode cX9_opens 35 = .ok (.iconst 1, 1) := by decide +kernel
theorem dX9_opens_36 : decode cX9_opens 36 = .ok (.iadd, 1) := by decide +kernel
theorem dX9_opens_37 : decode cX9_opens 37 = .ok (.putfield 267, 3) := by decide +kernel
theorem dX9_opens_40 : decode cX9_opens 40 = .ok (.aload_n 0, 1) := by decide +kernel
theorem dX9_opens_41 : decode cX9_opens 41 = .ok (.getfield 102, 3) := by decide +kernel
theorem dX9_opens_44 : decode cX9_opens 44 = .ok (.aload_n 0, 1) := by decide +kernel
theorem dX9_opens_45 : decode cX9_opens 45 = .ok (.getfield 264, 3) := by decide +kernel
theorem dX9_opens_48 : decode cX9_opens 48 = .ok (.iload_n 1, 1) := by decide +kernel
theorem dX9_opens_49 : decode cX9_opens 49 = .ok (.iastore, 1) := by decide +kernel
theorem dX9_opens_50 : decode cX9_opens 50 = .ok (.aload_n 0, 1) := by decide +kernel
theorem dX9_opens_51 : decode cX9_opens 51 = .ok (.dup, 1) := by decide +kernel
theorem dX9_opens_52 : decode cX9_opens 52 = .ok (.getfield 264, 3) := by decide +kernel
theorem dX9_opens_55 : decode cX9_opens 55 = .ok (.iconst 1, 1) := by decide +kernel
theorem dX9_opens_56 : decode cX9_opens 56 = .ok (.iadd, 1) := by decide +kernel
theorem dX9_opens_57 : decode cX9_opens 57 = .ok (.putfield 264, 3) := by decide +kernel
theorem dX9_opens_60 : decode cX9_opens 60 = .ok (.return_, 1) := by decide +kernel
theorem dX9_answers_0 : decode cX9_answers 0 = .ok (.aload_n 0, 1) := by decide +kernel
theorem dX9_answers_1 : decode cX9_answers 1 = .ok (.invokevirtual 270, 3) := by decide +kernel
theorem dX9_answers_4 : decode cX9_answers 4 = .ok (.iload_n 1, 1) := by decide +kernel
theorem dX9_answers_5 : decode cX9_answers 5 = .ok (.if_icmp .ne 49, 3) := by decide +kernel
theorem dX9_answers_8 : decode cX9_answers 8 = .ok (.aload_n 0, 1) := by decide +kernel
theorem dX9_answers_9 : decode cX9_answers 9 = .ok (.getfield 193, 3) := by decide +kernel
theorem dX9_answers_12 : decode cX9_answers 12 = .ok (.ifCond .ne 42, 3) := by decide +kernel
theorem dX9_answers_15 : decode cX9_answers 15 = .ok (.aload_n 0, 1) := by decide +kernel
theorem dX9_answers_16 : decode cX9_answers 16 = .ok (.iload_n 1, 1) := by decide +kernel
theorem dX9_answers_17 : decode cX9_answers 17 = .ok (.iconst 0, 1) := by decide +kernel
theorem dX9_answers_18 : decode cX9_answers 18 = .ok (.invokevirtual 248, 3) := by decide +kernel
theorem dX9_answers_21 : decode cX9_answers 21 = .ok (.aload_n 0, 1) := by decide +kernel
theorem dX9_answers_22 : decode cX9_answers 22 = .ok (.dup, 1) := by decide +kernel
theorem dX9_answers_23 : decode cX9_answers 23 = .ok (.getfield 264, 3) := by decide +kernel
theorem dX9_answers_26 : decode cX9_answers 26 = .ok (.iconst 1, 1) := by decide +kernel
theorem dX9_answers_27 : decode cX9_answers 27 = .ok (.isub, 1) := by decide +kernel
theorem dX9_answers_28 : decode cX9_answers 28 = .ok (.putfield 264, 3) := by decide +kernel
theorem dX9_answers_31 : decode cX9_answers 31 = .ok (.aload_n 0, 1) := by decide +kernel
theorem dX9_answers_32 : decode cX9_answers 32 = .ok (.dup, 1) := by decide +kernel
theorem dX9_answers_33 : decode cX9_answers 33 = .ok (.getfield 267, 3) := by decide +kernel
theorem dX9_answers_36 : decode cX9_answers 36 = .ok (.iload_n 1, 1) := by decide +kernel
theorem dX9_answers_37 : decode cX9_answers 37 = .ok (.bipush 9, 2) := by decide +kernel
theorem dX9_answers_39 : decode cX9_answers 39 = .ok (.if_icmp .ne 7, 3) := by decide +kernel
theorem dX9_answers_42 : decode cX9_answers 42 = .ok (.iconst 1, 1) := by decide +kernel
theorem dX9_answers_43 : decode cX9_answers 43 = .ok (.goto 4, 3) := by decide +kernel
theorem dX9_answers_46 : decode cX9_answers 46 = .ok (.iconst 0, 1) := by decide +kernel
theorem dX9_answers_47 : decode cX9_answers 47 = .ok (.isub, 1) := by decide +kernel
theorem dX9_answers_48 : decode cX9_answers 48 = .ok (.putfield 267, 3) := by decide +kernel
theorem dX9_answers_51 : decode cX9_answers 51 = .ok (.goto (-51), 3) := by decide +kernel
theorem dX9_answers_54 : decode cX9_answers 54 = .ok (.return_, 1) := by decide +kernel
theorem dX9_fact_0 : decode cX9_fact 0 = .ok (.aload_n 0, 1) := by decide +kernel
theorem dX9_fact_1 : decode cX9_fact 1 = .ok (.invokevirtual 216, 3) := by decide +kernel
theorem dX9_fact_4 : decode cX9_fact 4 = .ok (.aload_n 0, 1) := by decide +kernel
theorem dX9_fact_5 : decode cX9_fact 5 = .ok (.ldc_w 273, 3) := by decide +kernel
theorem dX9_fact_8 : decode cX9_fact 8 = .ok (.invokevirtual 219, 3) := by decide +kernel
theorem dX9_fact_11 : decode cX9_fact 11 = .ok (.ifCond .eq 21, 3) := by decide +kernel
theorem dX9_fact_14 : decode cX9_fact 14 = .ok (.aload_n 0, 1) := by decide +kernel
theorem dX9_fact_15 : decode cX9_fact 15 = .ok (.bipush 9, 2) := by decide +kernel
theorem dX9_fact_17 : decode cX9_fact 17 = .ok (.invokevirtual 275, 3) := by decide +kernel
theorem dX9_fact_20 : decode cX9_fact 20 = .ok (.aload_n 0, 1) := by decide +kernel
theorem dX9_fact_21 : decode cX9_fact 21 = .ok (.dup, 1) := by decide +kernel
theorem dX9_fact_22 : decode cX9_fact 22 = .ok (.getfield 196, 3) := by decide +kernel
theorem dX9_fact_25 : decode cX9_fact 25 = .ok (.iconst 3, 1) := by decide +kernel
theorem dX9_fact_26 : decode cX9_fact 26 = .ok (.iadd, 1) := by decide +kernel
theorem dX9_fact_27 : decode cX9_fact 27 = .ok (.putfield 196, 3) := by decide +kernel
theorem dX9_fact_30 : decode cX9_fact 30 = .ok (.iconst 0, 1) := by decide +kernel
theorem dX9_fact_31 : decode cX9_fact 31 = .ok (.ireturn, 1) := by decide +kernel
theorem dX9_fact_32 : decode cX9_fact 32 = .ok (.aload_n 0, 1) := by decide +kernel
theorem dX9_fact_33 : decode cX9_fact 33 = .ok (.invokevirtual 199, 3) := by decide +kernel
theorem dX9_fact_36 : decode cX9_fact 36 = .ok (.bipush 91, 2) := by decide +kernel
theorem dX9_fact_38 : decode cX9_fact 38 = .ok (.if_icmp .ne 21, 3) := by decide +kernel
theorem dX9_fact_41 : decode cX9_fact 41 = .ok (.aload_n 0, 1) := by decide +kernel
theorem dX9_fact_42 : decode cX9_fact 42 = .ok (.bipush 12, 2) := by decide +kernel
theorem dX9_fact_44 : decode cX9_fact 44 = .ok (.invokevirtual 275, 3) := by decide +kernel
theorem dX9_fact_47 : decode cX9_fact 47 = .ok (.aload_n 0, 1) := by decide +kernel
theorem dX9_fact_48 : decode cX9_fact 48 = .ok (.dup, 1) := by decide +kernel
theorem dX9_fact_49 : decode cX9_fact 49 = .ok (.getfield 196, 3) := by decide +kernel
theorem dX9_fact_52 : decode cX9_fact 52 = .ok (.iconst 1, 1) := by decide +kernel
theorem dX9_fact_53 : decode cX9_fact 53 = .ok (.iadd, 1) := by decide +kernel
theorem dX9_fact_54 : decode cX9_fact 54 = .ok (.putfield 196, 3) := by decide +kernel
theorem dX9_fact_57 : decode cX9_fact 57 = .ok (.iconst 0, 1) := by decide +kernel
theorem dX9_fact_58 : decode cX9_fact 58 = .ok (.ireturn, 1) := by decide +kernel
theorem dX9_fact_59 : decode cX9_fact 59 = .ok (.aload_n 0, 1) := by decide +kernel
theorem dX9_fact_60 : decode cX9_fact 60 = .ok (.invokevirtual 278, 3) := by decide +kernel
theorem dX9_fact_63 : decode cX9_fact 63 = .ok (.iconst 1, 1) := by decide +kernel
theorem dX9_fact_64 : decode cX9_fact 64 = .ok (.ireturn, 1) := by decide +kernel
theorem dX9_test_0 : decode cX9_test 0 = .ok (.aload_n 0, 1) := by decide +kernel
theorem dX9_test_1 : decode cX9_test 1 = .ok (.iconst 0, 1) := by decide +kernel
theorem dX9_test_2 : decode cX9_test 2 = .ok (.putfield 264, 3) := by decide +kernel
theorem dX9_test_5 : decode cX9_test 5 = .ok (.iconst 1, 1) := by decide +kernel
theorem dX9_test_6 : decode cX9_test 6 = .ok (.istore_n 1, 1) := by decide +kernel
theorem dX9_test_7 : decode cX9_test 7 = .ok (.iconst 1, 1) := by decide +kernel
theorem dX9_test_8 : decode cX9_test 8 = .ok (.istore_n 2, 1) := by decide +kernel
theorem dX9_test_9 : decode cX9_test 9 = .ok (.iload_n 2, 1) := by decide +kernel
theorem dX9_test_10 : decode cX9_test 10 = .ok (.ifCond .eq 192, 3) := by decide +kernel
theorem dX9_test_13 : decode cX9_test 13 = .ok (.aload_n 0, 1) := by decide +kernel
theorem dX9_test_14 : decode cX9_test 14 = .ok (.getfield 193, 3) := by decide +kernel
theorem dX9_test_17 : decode cX9_test 17 = .ok (.ifCond .ne 185, 3) := by decide +kernel
theorem dX9_test_20 : decode cX9_test 20 = .ok (.iload_n 1, 1) := by decide +kernel
theorem dX9_test_21 : decode cX9_test 21 = .ok (.ifCond .eq 19, 3) := by decide +kernel
theorem dX9_test_24 : decode cX9_test 24 = .ok (.aload_n 0, 1) := by decide +kernel
theorem dX9_test_25 : decode cX9_test 25 = .ok (.invokevirtual 281, 3) := by decide +kernel
theorem dX9_test_28 : decode cX9_test 28 = .ok (.ifCond .ne 7, 3) := by decide +kernel
theorem dX9_test_31 : decode cX9_test 31 = .ok (.iconst 1, 1) := by decide +kernel
theorem dX9_test_32 : decode cX9_test 32 = .ok (.goto 4, 3) := by decide +kernel
theorem dX9_test_35 : decode cX9_test 35 = .ok (.iconst 0, 1) := by decide +kernel
theorem dX9_test_36 : decode cX9_test 36 = .ok (.istore_n 1, 1) := by decide +kernel
theorem dX9_test_37 : decode cX9_test 37 = .ok (.goto (-28), 3) := by decide +kernel
theorem dX9_test_40 : decode cX9_test 40 = .ok (.aload_n 0, 1) := by decide +kernel
theorem dX9_test_41 : decode cX9_test 41 = .ok (.bipush 9, 2) := by decide +kernel
theorem dX9_test_43 : decode cX9_test 43 = .ok (.invokevirtual 284, 3) := by decide +kernel
theorem dX9_test_46 : decode cX9_test 46 = .ok (.aload_n 0, 1) := by decide +kernel
theorem dX9_test_47 : decode cX9_test 47 = .ok (.invokevirtual 216, 3) := by decide +kernel
theorem dX9_test_50 : decode cX9_test 50 = .ok (.aload_n 0, 1) := by decide +kernel
theorem dX9_test_51 : decode cX9_test 51 = .ok (.ldc_w 287, 3) := by decide +kernel
theorem dX9_test_54 : decode cX9_test 54 = .ok (.invokevirtual 219, 3) := by decide +kernel
theorem dX9_test_57 : decode cX9_test 57 = .ok (.istore_n 3, 1) := by decide +kernel
theorem dX9_test_58 : decode cX9_test 58 = .ok (.aload_n 0, 1) := by decide +kernel
theorem dX9_test_59 : decode cX9_test 59 = .ok (.ldc_w 289, 3) := by decide +kernel
theorem dX9_test_62 : decode cX9_test 62 = .ok (.invokevirtual 219, 3) := by decide +kernel
theorem dX9_test_65 : decode cX9_test 65 = .ok (.istore 4, 2) := by decide +kernel
theorem dX9_test_67 : decode cX9_test 67 = .ok (.aload_n 0, 1) := by decide +kernel
theorem dX9_test_68 : decode cX9_test 68 = .ok (.bipush 10, 2) := by decide +kernel
theorem dX9_test_70 : decode cX9_test 70 = .ok (.invokevirtual 284, 3) := by decide +kernel
theorem dX9_test_73 : decode cX9_test 73 = .ok (.iload_n 3, 1) := by decide +kernel
theorem dX9_test_74 : decode cX9_test 74 = .ok (.ifCond .ne 8, 3) := by decide +kernel
theorem dX9_test_77 : decode cX9_test 77 = .ok (.iload 4, 2) := by decide +kernel
theorem dX9_test_79 : decode cX9_test 79 = .ok (.ifCond .eq 52, 3) := by decide +kernel
theorem dX9_test_82 : decode cX9_test 82 = .ok (.iload 4, 2) := by decide +kernel
theorem dX9_test_84 : decode cX9_test 84 = .ok (.ifCond .eq 9, 3) := by decide +kernel
theorem dX9_test_87 : decode cX9_test 87 = .ok (.aload_n 0, 1) := by decide +kernel
theorem dX9_test_88 : decode cX9_test 88 = .ok (.bipush 11, 2) := by decide +kernel
theorem dX9_test_90 : decode cX9_test 90 = .ok (.invokevirtual 284, 3) := by decide +kernel
theorem dX9_test_93 : decode cX9_test 93 = .ok (.aload_n 0, 1) := by decide +kernel
theorem dX9_test_94 : decode cX9_test 94 = .ok (.iload_n 3, 1) := by decide +kernel
theorem dX9_test_95 : decode cX9_test 95 = .ok (.ifCond .eq 8, 3) := by decide +kernel
theorem dX9_test_98 : decode cX9_test 98 = .ok (.bipush 10, 2) := by decide +kernel
theorem dX9_test_100 : decode cX9_test 100 = .ok (.goto 5, 3) := by decide +kernel
theorem dX9_test_103 : decode cX9_test 103 = .ok (.bipush 11, 2) := by decide +kernel
theorem dX9_test_105 : decode cX9_test 105 = .ok (.invokevirtual 275, 3) := by decide +kernel
theorem dX9_test_108 : decode cX9_test 108 = .ok (.aload_n 0, 1) := by decide +kernel
theorem dX9_test_109 : decode cX9_test 109 = .ok (.dup, 1) := by decide +kernel
theorem dX9_test_110 : decode cX9_test 110 = .ok (.getfield 196, 3) := by decide +kernel
theorem dX9_test_113 : decode cX9_test 113 = .ok (.iload_n 3, 1) := by decide +kernel
theorem dX9_test_114 : decode cX9_test 114 = .ok (.ifCond .eq 7, 3) := by decide +kernel
theorem dX9_test_117 : decode cX9_test 117 = .ok (.iconst 3, 1) := by decide +kernel
theorem dX9_test_118 : decode cX9_test 118 = .ok (.goto 4, 3) := by decide +kernel
theorem dX9_test_121 : decode cX9_test 121 = .ok (.iconst 2, 1) := by decide +kernel
theorem dX9_test_122 : decode cX9_test 122 = .ok (.iadd, 1) := by decide +kernel
theorem dX9_test_123 : decode cX9_test 123 = .ok (.putfield 196, 3) := by decide +kernel
theorem dX9_test_126 : decode cX9_test 126 = .ok (.iconst 1, 1) := by decide +kernel
theorem dX9_test_127 : decode cX9_test 127 = .ok (.istore_n 1, 1) := by decide +kernel
theorem dX9_test_128 : decode cX9_test 128 = .ok (.goto 71, 3) := by decide +kernel
theorem dX9_test_131 : decode cX9_test 131 = .ok (.aload_n 0, 1) := by decide +kernel
theorem dX9_test_132 : decode cX9_test 132 = .ok (.bipush 11, 2) := by decide +kernel
theorem dX9_test_134 : decode cX9_test 134 = .ok (.invokevirtual 284, 3) := by decide +kernel
theorem dX9_test_137 : decode cX9_test 137 = .ok (.aload_n 0, 1) := by decide +kernel
theorem dX9_test_138 : decode cX9_test 138 = .ok (.invokevirtual 270, 3) := by decide +kernel
theorem dX9_test_141 : decode cX9_test 141 = .ok (.bipush 12, 2) := by decide +kernel
theorem dX9_test_143 : decode cX9_test 143 = .ok (.if_icmp .ne 54, 3) := by decide +kernel
theorem dX9_test_146 : decode cX9_test 146 = .ok (.aload_n 0, 1) := by decide +kernel
theorem dX9_test_147 : decode cX9_test 147 = .ok (.invokevirtual 199, 3) := by decide +kernel
theorem dX9_test_150 : decode cX9_test 150 = .ok (.bipush 93, 2) := by decide +kernel
theorem dX9_test_152 : decode cX9_test 152 = .ok (.if_icmp .eq 12, 3) := by decide +kernel
theorem dX9_test_155 : decode cX9_test 155 = .ok (.aload_n 0, 1) := by decide +kernel
theorem dX9_test_156 : decode cX9_test 156 = .ok (.iconst 0, 1) := by decide +kernel
theorem dX9_test_157 : decode cX9_test 157 = .ok (.aload_n 0, 1) := by decide +kernel
theorem dX9_test_158 : decode cX9_test 158 = .ok (.getfield 196, 3) := by decide +kernel
theorem dX9_test_161 : decode cX9_test 161 = .ok (.invokevirtual 232, 3) := by decide +kernel
theorem dX9_test_164 : decode cX9_test 164 = .ok (.aload_n 0, 1) := by decide +kernel
theorem dX9_test_165 : decode cX9_test 165 = .ok (.dup, 1) := by decide +kernel
theorem dX9_test_166 : decode cX9_test 166 = .ok (.getfield 196, 3) := by decide +kernel
theorem dX9_test_169 : decode cX9_test 169 = .ok (.iconst 1, 1) := by decide +kernel
theorem dX9_test_170 : decode cX9_test 170 = .ok (.iadd, 1) := by decide +kernel
theorem dX9_test_171 : decode cX9_test 171 = .ok (.putfield 196, 3) := by decide +kernel
theorem dX9_test_174 : decode cX9_test 174 = .ok (.aload_n 0, 1) := by decide +kernel
theorem dX9_test_175 : decode cX9_test 175 = .ok (.dup, 1) := by decide +kernel
theorem dX9_test_176 : decode cX9_test 176 = .ok (.getfield 264, 3) := by decide +kernel
theorem dX9_test_179 : decode cX9_test 179 = .ok (.iconst 1, 1) := by decide +kernel
theorem dX9_test_180 : decode cX9_test 180 = .ok (.isub, 1) := by decide +kernel
theorem dX9_test_181 : decode cX9_test 181 = .ok (.putfield 264, 3) := by decide +kernel
theorem dX9_test_184 : decode cX9_test 184 = .ok (.aload_n 0, 1) := by decide +kernel
theorem dX9_test_185 : decode cX9_test 185 = .ok (.dup, 1) := by decide +kernel
theorem dX9_test_186 : decode cX9_test 186 = .ok (.getfield 267, 3) := by decide +kernel
theorem dX9_test_189 : decode cX9_test 189 = .ok (.iconst 1, 1) := by decide +kernel
theorem dX9_test_190 : decode cX9_test 190 = .ok (.isub, 1) := by decide +kernel
theorem dX9_test_191 : decode cX9_test 191 = .ok (.putfield 267, 3) := by decide +kernel
theorem dX9_test_194 : decode cX9_test 194 = .ok (.goto 5, 3) := by decide +kernel
theorem dX9_test_197 : decode cX9_test 197 = .ok (.iconst 0, 1) := by decide +kernel
theorem dX9_test_198 : decode cX9_test 198 = .ok (.istore_n 2, 1) := by decide +kernel
theorem dX9_test_199 : decode cX9_test 199 = .ok (.goto (-190), 3) := by decide +kernel
theorem dX9_test_202 : decode cX9_test 202 = .ok (.return_, 1) := by decide +kernel
theorem dX9_amount_0 : decode cX9_amount 0 = .ok (.aload_n 0, 1) := by decide +kernel
theorem dX9_amount_1 : decode cX9_amount 1 = .ok (.invokevirtual 216, 3) := by decide +kernel
theorem dX9_amount_4 : decode cX9_amount 4 = .ok (.aload_n 0, 1) := by decide +kernel
theorem dX9_amount_5 : decode cX9_amount 5 = .ok (.getfield 196, 3) := by decide +kernel
theorem dX9_amount_8 : decode cX9_amount 8 = .ok (.istore_n 3, 1) := by decide +kernel
theorem dX9_amount_9 : decode cX9_amount 9 = .ok (.aload_n 0, 1) := by decide +kernel
theorem dX9_amount_10 : decode cX9_amount 10 = .ok (.getfield 193, 3) := by decide +kernel
theorem dX9_amount_13 : decode cX9_amount 13 = .ok (.ifCond .ne 12, 3) := by decide +kernel
theorem dX9_amount_16 : decode cX9_amount 16 = .ok (.aload_n 0, 1) := by decide +kernel
theorem dX9_amount_17 : decode cX9_amount 17 = .ok (.ldc 240, 2) := by decide +kernel
theorem dX9_amount_19 : decode cX9_amount 19 = .ok (.invokevirtual 241, 3) := by decide +kernel
theorem dX9_amount_22 : decode cX9_amount 22 = .ok (.goto 4, 3) := by decide +kernel
theorem dX9_amount_25 : decode cX9_amount 25 = .ok (.iconst 0, 1) := by decide +kernel
theorem dX9_amount_26 : decode cX9_amount 26 = .ok (.istore 4, 2) := by decide +kernel
theorem dX9_amount_28 : decode cX9_amount 28 = .ok (.aload_n 0, 1) := by decide +kernel
theorem dX9_amount_29 : decode cX9_amount 29 = .ok (.getfield 193, 3) := by decide +kernel
theorem dX9_amount_32 : decode cX9_amount 32 = .ok (.ifCond .ne 22, 3) := by decide +kernel
theorem dX9_amount_35 : decode cX9_amount 35 = .ok (.iload 4, 2) := by decide +kernel
theorem dX9_amount_37 : decode cX9_amount 37 = .ok (.i2l, 1) := by decide +kernel
theorem dX9_amount_38 : decode cX9_amount 38 = .ok (.iload_n 1, 1) := by decide +kernel
theorem dX9_amount_39 : decode cX9_amount 39 = .ok (.i2l, 1) := by decide +kernel
theorem dX9_amount_40 : decode cX9_amount 40 = .ok (.iload_n 2, 1) := by decide +kernel
theorem dX9_amount_41 : decode cX9_amount 41 = .ok (.i2l, 1) := by decide +kernel
theorem dX9_amount_42 : decode cX9_amount 42 = .ok (.invokestatic 146, 3) := by decide +kernel
theorem dX9_amount_45 : decode cX9_amount 45 = .ok (.ifCond .ne 9, 3) := by decide +kernel
theorem dX9_amount_48 : decode cX9_amount 48 = .ok (.aload_n 0, 1) := by decide +kernel
theorem dX9_amount_49 : decode cX9_amount 49 = .ok (.iconst 1, 1) := by decide +kernel
theorem dX9_amount_50 : decode cX9_amount 50 = .ok (.iload_n 3, 1) := by decide +kernel
theorem dX9_amount_51 : decode cX9_amount 51 = .ok (.invokevirtual 232, 3) := by decide +kernel
theorem dX9_amount_54 : decode cX9_amount 54 = .ok (.iload 4, 2) := by decide +kernel
theorem dX9_amount_56 : decode cX9_amount 56 = .ok (.ireturn, 1) := by decide +kernel
theorem dX9_spotted_0 : decode cX9_spotted 0 = .ok (.aload_n 0, 1) := by decide +kernel
theorem dX9_spotted_1 : decode cX9_spotted 1 = .ok (.iconst 0, 1) := by decide +kernel
theorem dX9_spotted_2 : decode cX9_spotted 2 = .ok (.aload_n 0, 1) := by decide +kernel
theorem dX9_spotted_3 : decode cX9_spotted 3 = .ok (.getfield 46, 3) := by decide +kernel
theorem dX9_spotted_6 : decode cX9_spotted 6 = .ok (.iconst 0, 1) := by decide +kernel
theorem dX9_spotted_7 : decode cX9_spotted 7 = .ok (.iaload, 1) := by decide +kernel
theorem dX9_spotted_8 : decode cX9_spotted 8 = .ok (.iconst 1, 1) := by decide +kernel
theorem dX9_spotted_9 : decode cX9_spotted 9 = .ok (.isub, 1) := by decide +kernel
theorem dX9_spotted_10 : decode cX9_spotted 10 = .ok (.invokevirtual 291, 3) := by decide +kernel
theorem dX9_spotted_13 : decode cX9_spotted 13 = .ok (.istore_n 1, 1) := by decide +kernel
theorem dX9_spotted_14 : decode cX9_spotted 14 = .ok (.bipush 10, 2) := by decide +kernel
theorem dX9_spotted_16 : decode cX9_spotted 16 = .ok (.aload_n 0, 1) := by decide +kernel
theorem dX9_spotted_17 : decode cX9_spotted 17 = .ok (.iconst 0, 1) := by decide +kernel
theorem dX9_spotted_18 : decode cX9_spotted 18 = .ok (.aload_n 0, 1) := by decide +kernel
theorem dX9_spotted_19 : decode cX9_spotted 19 = .ok (.getfield 46, 3) := by decide +kernel
theorem dX9_spotted_22 : decode cX9_spotted 22 = .ok (.iconst 1, 1) := by decide +kernel
theorem dX9_spotted_23 : decode cX9_spotted 23 = .ok (.iaload, 1) := by decide +kernel
theorem dX9_spotted_24 : decode cX9_spotted 24 = .ok (.iconst 1, 1) := by decide +kernel
theorem dX9_spotted_25 : decode cX9_spotted 25 = .ok (.isub, 1) := by decide +kernel
theorem dX9_spotted_26 : decode cX9_spotted 26 = .ok (.invokevirtual 291, 3) := by decide +kernel
theorem dX9_spotted_29 : decode cX9_spotted 29 = .ok (.imul, 1) := by decide +kernel
theorem dX9_spotted_30 : decode cX9_spotted 30 = .ok (.iload_n 1, 1) := by decide +kernel
theorem dX9_spotted_31 : decode cX9_spotted 31 = .ok (.iadd, 1) := by decide +kernel
theorem dX9_spotted_32 : decode cX9_spotted 32 = .ok (.ireturn, 1) := by decide +kernel
theorem dX9_readsGuest_0 : decode cX9_readsGuest 0 = .ok (.aload_n 0, 1) := by decide +kernel
theorem dX9_readsGuest_1 : decode cX9_readsGuest 1 = .ok (.invokevirtual 216, 3) := by decide +kernel
theorem dX9_readsGuest_4 : decode cX9_readsGuest 4 = .ok (.aload_n 0, 1) := by decide +kernel
theorem dX9_readsGuest_5 : decode cX9_readsGuest 5 = .ok (.getfield 196, 3) := by decide +kernel
theorem dX9_readsGuest_8 : decode cX9_readsGuest 8 = .ok (.istore_n 1, 1) := by decide +kernel
theorem dX9_readsGuest_9 : decode cX9_readsGuest 9 = .ok (.aload_n 0, 1) := by decide +kernel
theorem dX9_readsGuest_10 : decode cX9_readsGuest 10 = .ok (.invokevirtual 295, 3) := by decide +kernel
theorem dX9_readsGuest_13 : decode cX9_readsGuest 13 = .ok (.istore_n 2, 1) := by decide +kernel
theorem dX9_readsGuest_14 : decode cX9_readsGuest 14 = .ok (.aload_n 0, 1) := by decide +kernel
theorem dX9_readsGuest_15 : decode cX9_readsGuest 15 = .ok (.getfield 46, 3) := by decide +kernel
theorem dX9_readsGuest_18 : decode cX9_readsGuest 18 = .ok (.iconst 2, 1) := by decide +kernel
theorem dX9_readsGuest_19 : decode cX9_readsGuest 19 = .ok (.iaload, 1) := by decide +kernel
theorem dX9_readsGuest_20 : decode cX9_readsGuest 20 = .ok (.istore_n 3, 1) := by decide +kernel
theorem dX9_readsGuest_21 : decode cX9_readsGuest 21 = .ok (.iconst 0, 1) := by decide +kernel
theorem dX9_readsGuest_22 : decode cX9_readsGuest 22 = .ok (.istore 4, 2) := by decide +kernel
theorem dX9_readsGuest_24 : decode cX9_readsGuest 24 = .ok (.iload 4, 2) := by decide +kernel
theorem dX9_readsGuest_26 : decode cX9_readsGuest 26 = .ok (.iload_n 3, 1) := by decide +kernel
theorem dX9_readsGuest_27 : decode cX9_readsGuest 27 = .ok (.if_icmp .ge 33, 3) := by decide +kernel
theorem dX9_readsGuest_30 : decode cX9_readsGuest 30 = .ok (.aload_n 0, 1) := by decide +kernel
theorem dX9_readsGuest_31 : decode cX9_readsGuest 31 = .ok (.getfield 193, 3) := by decide +kernel
theorem dX9_readsGuest_34 : decode cX9_readsGuest 34 = .ok (.ifCond .ne 26, 3) := by decide +kernel
theorem dX9_readsGuest_37 : decode cX9_readsGuest 37 = .ok (.aload_n 0, 1) := by decide +kernel
theorem dX9_readsGuest_38 : decode cX9_readsGuest 38 = .ok (.getfield 52, 3) := by decide +kernel
theorem dX9_readsGuest_41 : decode cX9_readsGuest 41 = .ok (.iload 4, 2) := by decide +kernel
theorem dX9_readsGuest_43 : decode cX9_readsGuest 43 = .ok (.iaload, 1) := by decide +kernel
theorem dX9_readsGuest_44 : decode cX9_readsGuest 44 = .ok (.iload_n 2, 1) := by decide +kernel
theorem dX9_readsGuest_45 : decode cX9_readsGuest 45 = .ok (.if_icmp .ne 9, 3) := by decide +kernel
theorem dX9_readsGuest_48 : decode cX9_readsGuest 48 = .ok (.aload_n 0, 1) := by decide +kernel
theorem dX9_readsGuest_49 : decode cX9_readsGuest 49 = .ok (.iconst 5, 1) := by decide +kernel
theorem dX9_readsGuest_50 : decode cX9_readsGuest 50 = .ok (.iload_n 1, 1) := by decide +kernel
theorem dX9_readsGuest_51 : decode cX9_readsGuest 51 = .ok (.invokevirtual 232, 3) := by decide +kernel
theorem dX9_readsGuest_54 : decode cX9_readsGuest 54 = .ok (.iinc 4 1, 3) := by decide +kernel
theorem dX9_readsGuest_57 : decode cX9_readsGuest 57 = .ok (.goto (-33), 3) := by decide +kernel
theorem dX9_readsGuest_60 : decode cX9_readsGuest 60 = .ok (.aload_n 0, 1) := by decide +kernel
theorem dX9_readsGuest_61 : decode cX9_readsGuest 61 = .ok (.getfield 52, 3) := by decide +kernel
theorem dX9_readsGuest_64 : decode cX9_readsGuest 64 = .ok (.iload_n 3, 1) := by decide +kernel
theorem dX9_readsGuest_65 : decode cX9_readsGuest 65 = .ok (.iload_n 2, 1) := by decide +kernel
theorem dX9_readsGuest_66 : decode cX9_readsGuest 66 = .ok (.iastore, 1) := by decide +kernel
theorem dX9_readsGuest_67 : decode cX9_readsGuest 67 = .ok (.aload_n 0, 1) := by decide +kernel
theorem dX9_readsGuest_68 : decode cX9_readsGuest 68 = .ok (.getfield 55, 3) := by decide +kernel
theorem dX9_readsGuest_71 : decode cX9_readsGuest 71 = .ok (.iload_n 3, 1) := by decide +kernel
theorem dX9_readsGuest_72 : decode cX9_readsGuest 72 = .ok (.aload_n 0, 1) := by decide +kernel
theorem dX9_readsGuest_73 : decode cX9_readsGuest 73 = .ok (.iconst 0, 1) := by decide +kernel
theorem dX9_readsGuest_74 : decode cX9_readsGuest 74 = .ok (.bipush 99, 2) := by decide +kernel
theorem dX9_readsGuest_76 : decode cX9_readsGuest 76 = .ok (.invokevirtual 291, 3) := by decide +kernel
theorem dX9_readsGuest_79 : decode cX9_readsGuest 79 = .ok (.iastore, 1) := by decide +kernel
theorem dX9_readsGuest_80 : decode cX9_readsGuest 80 = .ok (.aload_n 0, 1) := by decide +kernel
theorem dX9_readsGuest_81 : decode cX9_readsGuest 81 = .ok (.getfield 58, 3) := by decide +kernel
theorem dX9_readsGuest_84 : decode cX9_readsGuest 84 = .ok (.iload_n 3, 1) := by decide +kernel
theorem dX9_readsGuest_85 : decode cX9_readsGuest 85 = .ok (.aload_n 0, 1) := by decide +kernel
theorem dX9_readsGuest_86 : decode cX9_readsGuest 86 = .ok (.iconst 0, 1) := by decide +kernel
theorem dX9_readsGuest_87 : decode cX9_readsGuest 87 = .ok (.bipush 9, 2) := by decide +kernel
theorem dX9_readsGuest_89 : decode cX9_readsGuest 89 = .ok (.invokevirtual 291, 3) := by decide +kernel
theorem dX9_readsGuest_92 : decode cX9_readsGuest 92 = .ok (.iastore, 1) := by decide +kernel
theorem dX9_readsGuest_93 : decode cX9_readsGuest 93 = .ok (.aload_n 0, 1) := by decide +kernel
theorem dX9_readsGuest_94 : decode cX9_readsGuest 94 = .ok (.getfield 46, 3) := by decide +kernel
theorem dX9_readsGuest_97 : decode cX9_readsGuest 97 = .ok (.iconst 2, 1) := by decide +kernel
theorem dX9_readsGuest_98 : decode cX9_readsGuest 98 = .ok (.dup2, 1) := by decide +kernel
theorem dX9_readsGuest_99 : decode cX9_readsGuest 99 = .ok (.iaload, 1) := by decide +kernel
theorem dX9_readsGuest_100 : decode cX9_readsGuest 100 = .ok (.iconst 1, 1) := by decide +kernel
theorem dX9_readsGuest_101 : decode cX9_readsGuest 101 = .ok (.iadd, 1) := by decide +kernel
theorem dX9_readsGuest_102 : decode cX9_readsGuest 102 = .ok (.iastore, 1) := by decide +kernel
theorem dX9_readsGuest_103 : decode cX9_readsGuest 103 = .ok (.return_, 1) := by decide +kernel
theorem dX9_hallPart_0 : decode cX9_hallPart 0 = .ok (.iload_n 1, 1) := by decide +kernel
theorem dX9_hallPart_1 : decode cX9_hallPart 1 = .ok (.ifCond .ne 32, 3) := by decide +kernel
theorem dX9_hallPart_4 : decode cX9_hallPart 4 = .ok (.aload_n 0, 1) := by decide +kernel
theorem dX9_hallPart_5 : decode cX9_hallPart 5 = .ok (.getfield 46, 3) := by decide +kernel
theorem dX9_hallPart_8 : decode cX9_hallPart 8 = .ok (.iconst 0, 1) := by decide +kernel
theorem dX9_hallPart_9 : decode cX9_hallPart 9 = .ok (.aload_n 0, 1) := by decide +kernel
theorem dX9_hallPart_10 : decode cX9_hallPart 10 = .ok (.iconst 1, 1) := by decide +kernel
theorem dX9_hallPart_11 : decode cX9_hallPart 11 = .ok (.bipush 10, 2) := by decide +kernel
theorem dX9_hallPart_13 : decode cX9_hallPart 13 = .ok (.invokevirtual 291, 3) := by decide +kernel
theorem dX9_hallPart_16 : decode cX9_hallPart 16 = .ok (.iastore, 1) := by decide +kernel
theorem dX9_hallPart_17 : decode cX9_hallPart 17 = .ok (.aload_n 0, 1) := by decide +kernel
theorem dX9_hallPart_18 : decode cX9_hallPart 18 = .ok (.getfield 46, 3) := by decide +kernel
theorem dX9_hallPart_21 : decode cX9_hallPart 21 = .ok (.iconst 1, 1) := by decide +kernel
theorem dX9_hallPart_22 : decode cX9_hallPart 22 = .ok (.aload_n 0, 1) := by decide +kernel
theorem dX9_hallPart_23 : decode cX9_hallPart 23 = .ok (.iconst 1, 1) := by decide +kernel
theorem dX9_hallPart_24 : decode cX9_hallPart 24 = .ok (.bipush 8, 2) := by decide +kernel
theorem dX9_hallPart_26 : decode cX9_hallPart 26 = .ok (.invokevirtual 291, 3) := by decide +kernel
theorem dX9_hallPart_29 : decode cX9_hallPart 29 = .ok (.iastore, 1) := by decide +kernel
theorem dX9_hallPart_30 : decode cX9_hallPart 30 = .ok (.goto 174, 3) := by decide +kernel
theorem dX9_hallPart_33 : decode cX9_hallPart 33 = .ok (.iload_n 1, 1) := by decide +kernel
theorem dX9_hallPart_34 : decode cX9_hallPart 34 = .ok (.iconst 1, 1) := by decide +kernel
theorem dX9_hallPart_35 : decode cX9_hallPart 35 = .ok (.if_icmp .ne 10, 3) := by decide +kernel
theorem dX9_hallPart_38 : decode cX9_hallPart 38 = .ok (.aload_n 0, 1) := by decide +kernel
theorem dX9_hallPart_39 : decode cX9_hallPart 39 = .ok (.invokevirtual 298, 3) := by decide +kernel
theorem dX9_hallPart_42 : decode cX9_hallPart 42 = .ok (.goto 162, 3) := by decide +kernel
theorem dX9_hallPart_45 : decode cX9_hallPart 45 = .ok (.iload_n 1, 1) := by decide +kernel
theorem dX9_hallPart_46 : decode cX9_hallPart 46 = .ok (.iconst 2, 1) := by decide +kernel
theorem dX9_hallPart_47 : decode cX9_hallPart 47 = .ok (.if_icmp .ne 58, 3) := by decide +kernel
theorem dX9_hallPart_50 : decode cX9_hallPart 50 = .ok (.aload_n 0, 1) := by decide +kernel
theorem dX9_hallPart_51 : decode cX9_hallPart 51 = .ok (.getfield 46, 3) := by decide +kernel
theorem dX9_hallPart_54 : decode cX9_hallPart 54 = .ok (.iconst 3, 1) := by decide +kernel
theorem dX9_hallPart_55 : decode cX9_hallPart 55 = .ok (.iaload, 1) := by decide +kernel
theorem dX9_hallPart_56 : decode cX9_hallPart 56 = .ok (.istore_n 2, 1) := by decide +kernel
theorem dX9_hallPart_57 : decode cX9_hallPart 57 = .ok (.aload_n 0, 1) := by decide +kernel
theorem dX9_hallPart_58 : decode cX9_hallPart 58 = .ok (.getfield 61, 3) := by decide +kernel
theorem dX9_hallPart_61 : decode cX9_hallPart 61 = .ok (.iload_n 2, 1) := by decide +kernel
theorem dX9_hallPart_62 : decode cX9_hallPart 62 = .ok (.aload_n 0, 1) := by decide +kernel
theorem dX9_hallPart_63 : decode cX9_hallPart 63 = .ok (.invokevirtual 295, 3) := by decide +kernel
theorem dX9_hallPart_66 : decode cX9_hallPart 66 = .ok (.iastore, 1) := by decide +kernel
theorem dX9_hallPart_67 : decode cX9_hallPart 67 = .ok (.aload_n 0, 1) := by decide +kernel
theorem dX9_hallPart_68 : decode cX9_hallPart 68 = .ok (.getfield 64, 3) := by decide +kernel
theorem dX9_hallPart_71 : decode cX9_hallPart 71 = .ok (.iload_n 2, 1) := by decide +kernel
theorem dX9_hallPart_72 : decode cX9_hallPart 72 = .ok (.aload_n 0, 1) := by decide +kernel
theorem dX9_hallPart_73 : decode cX9_hallPart 73 = .ok (.iconst 1, 1) := by decide +kernel
theorem dX9_hallPart_74 : decode cX9_hallPart 74 = .ok (.iconst 4, 1) := by decide +kernel
theorem dX9_hallPart_75 : decode cX9_hallPart 75 = .ok (.invokevirtual 291, 3) := by decide +kernel
theorem dX9_hallPart_78 : decode cX9_hallPart 78 = .ok (.iastore, 1) := by decide +kernel
theorem dX9_hallPart_79 : decode cX9_hallPart 79 = .ok (.aload_n 0, 1) := by decide +kernel
theorem dX9_hallPart_80 : decode cX9_hallPart 80 = .ok (.getfield 67, 3) := by decide +kernel
theorem dX9_hallPart_83 : decode cX9_hallPart 83 = .ok (.iload_n 2, 1) := by decide +kernel
theorem dX9_hallPart_84 : decode cX9_hallPart 84 = .ok (.aload_n 0, 1) := by decide +kernel
theorem dX9_hallPart_85 : decode cX9_hallPart 85 = .ok (.iconst 1, 1) := by decide +kernel
theorem dX9_hallPart_86 : decode cX9_hallPart 86 = .ok (.bipush 99, 2) := by decide +kernel
theorem dX9_hallPart_88 : decode cX9_hallPart 88 = .ok (.invokevirtual 291, 3) := by decide +kernel
theorem dX9_hallPart_91 : decode cX9_hallPart 91 = .ok (.iastore, 1) := by decide +kernel
theorem dX9_hallPart_92 : decode cX9_hallPart 92 = .ok (.aload_n 0, 1) := by decide +kernel
theorem dX9_hallPart_93 : decode cX9_hallPart 93 = .ok (.getfield 46, 3) := by decide +kernel
theorem dX9_hallPart_96 : decode cX9_hallPart 96 = .ok (.iconst 3, 1) := by decide +kernel
theorem dX9_hallPart_97 : decode cX9_hallPart 97 = .ok (.dup2, 1) := by decide +kernel
theorem dX9_hallPart_98 : decode cX9_hallPart 98 = .ok (.iaload, 1) := by decide +kernel
theorem dX9_hallPart_99 : decode cX9_hallPart 99 = .ok (.iconst 1, 1) := by decide +kernel
theorem dX9_hallPart_100 : decode cX9_hallPart 100 = .ok (.iadd, 1) := by decide +kernel
theorem dX9_hallPart_101 : decode cX9_hallPart 101 = .ok (.iastore, 1) := by decide +kernel
theorem dX9_hallPart_102 : decode cX9_hallPart 102 = .ok (.goto 102, 3) := by decide +kernel
theorem dX9_hallPart_105 : decode cX9_hallPart 105 = .ok (.iload_n 1, 1) := by decide +kernel
theorem dX9_hallPart_106 : decode cX9_hallPart 106 = .ok (.iconst 3, 1) := by decide +kernel
theorem dX9_hallPart_107 : decode cX9_hallPart 107 = .ok (.if_icmp .ne 46, 3) := by decide +kernel
theorem dX9_hallPart_110 : decode cX9_hallPart 110 = .ok (.aload_n 0, 1) := by decide +kernel
theorem dX9_hallPart_111 : decode cX9_hallPart 111 = .ok (.getfield 46, 3) := by decide +kernel
theorem dX9_hallPart_114 : decode cX9_hallPart 114 = .ok (.iconst 4, 1) := by decide +kernel
theorem dX9_hallPart_115 : decode cX9_hallPart 115 = .ok (.iaload, 1) := by decide +kernel
theorem dX9_hallPart_116 : decode cX9_hallPart 116 = .ok (.istore_n 2, 1) := by decide +kernel
theorem dX9_hallPart_117 : decode cX9_hallPart 117 = .ok (.aload_n 0, 1) := by decide +kernel
theorem dX9_hallPart_118 : decode cX9_hallPart 118 = .ok (.getfield 70, 3) := by decide +kernel
theorem dX9_hallPart_121 : decode cX9_hallPart 121 = .ok (.iload_n 2, 1) := by decide +kernel
theorem dX9_hallPart_122 : decode cX9_hallPart 122 = .ok (.aload_n 0, 1) := by decide +kernel
theorem dX9_hallPart_123 : decode cX9_hallPart 123 = .ok (.invokevirtual 295, 3) := by decide +kernel
theorem dX9_hallPart_126 : decode cX9_hallPart 126 = .ok (.iastore, 1) := by decide +kernel
theorem dX9_hallPart_127 : decode cX9_hallPart 127 = .ok (.aload_n 0, 1) := by decide +kernel
theorem dX9_hallPart_128 : decode cX9_hallPart 128 = .ok (.getfield 73, 3) := by decide +kernel
theorem dX9_hallPart_131 : decode cX9_hallPart 131 = .ok (.iload_n 2, 1) := by decide +kernel
theorem dX9_hallPart_132 : decode cX9_hallPart 132 = .ok (.aload_n 0, 1) := by decide +kernel
theorem dX9_hallPart_133 : decode cX9_hallPart 133 = .ok (.iconst 1, 1) := by decide +kernel
theorem dX9_hallPart_134 : decode cX9_hallPart 134 = .ok (.bipush 99, 2) := by decide +kernel
theorem dX9_hallPart_136 : decode cX9_hallPart 136 = .ok (.invokevirtual 291, 3) := by decide +kernel
theorem dX9_hallPart_139 : decode cX9_hallPart 139 = .ok (.iastore, 1) := by decide +kernel
theorem dX9_hallPart_140 : decode cX9_hallPart 140 = .ok (.aload_n 0, 1) := by decide +kernel
theorem dX9_hallPart_141 : decode cX9_hallPart 141 = .ok (.getfield 46, 3) := by decide +kernel
theorem dX9_hallPart_144 : decode cX9_hallPart 144 = .ok (.iconst 4, 1) := by decide +kernel
theorem dX9_hallPart_145 : decode cX9_hallPart 145 = .ok (.dup2, 1) := by decide +kernel
theorem dX9_hallPart_146 : decode cX9_hallPart 146 = .ok (.iaload, 1) := by decide +kernel
theorem dX9_hallPart_147 : decode cX9_hallPart 147 = .ok (.iconst 1, 1) := by decide +kernel
theorem dX9_hallPart_148 : decode cX9_hallPart 148 = .ok (.iadd, 1) := by decide +kernel
theorem dX9_hallPart_149 : decode cX9_hallPart 149 = .ok (.iastore, 1) := by decide +kernel
theorem dX9_hallPart_150 : decode cX9_hallPart 150 = .ok (.goto 54, 3) := by decide +kernel
theorem dX9_hallPart_153 : decode cX9_hallPart 153 = .ok (.iload_n 1, 1) := by decide +kernel
theorem dX9_hallPart_154 : decode cX9_hallPart 154 = .ok (.iconst 4, 1) := by decide +kernel
theorem dX9_hallPart_155 : decode cX9_hallPart 155 = .ok (.if_icmp .ne 21, 3) := by decide +kernel
theorem dX9_hallPart_158 : decode cX9_hallPart 158 = .ok (.aload_n 0, 1) := by decide +kernel
theorem dX9_hallPart_159 : decode cX9_hallPart 159 = .ok (.getfield 46, 3) := by decide +kernel
theorem dX9_hallPart_162 : decode cX9_hallPart 162 = .ok (.iconst 5, 1) := by decide +kernel
theorem dX9_hallPart_163 : decode cX9_hallPart 163 = .ok (.aload_n 0, 1) := by decide +kernel
theorem dX9_hallPart_164 : decode cX9_hallPart 164 = .ok (.invokevirtual 295, 3) := by decide +kernel
theorem dX9_hallPart_167 : decode cX9_hallPart 167 = .ok (.iastore, 1) := by decide +kernel
theorem dX9_hallPart_168 : decode cX9_hallPart 168 = .ok (.aload_n 0, 1) := by decide +kernel
theorem dX9_hallPart_169 : decode cX9_hallPart 169 = .ok (.iconst 1, 1) := by decide +kernel
theorem dX9_hallPart_170 : decode cX9_hallPart 170 = .ok (.putfield 301, 3) := by decide +kernel
theorem dX9_hallPart_173 : decode cX9_hallPart 173 = .ok (.goto 31, 3) := by decide +kernel
theorem dX9_hallPart_176 : decode cX9_hallPart 176 = .ok (.aload_n 0, 1) := by decide +kernel
theorem dX9_hallPart_177 : decode cX9_hallPart 177 = .ok (.invokevirtual 295, 3) := by decide +kernel
theorem dX9_hallPart_180 : decode cX9_hallPart 180 = .ok (.istore_n 2, 1) := by decide +kernel
theorem dX9_hallPart_181 : decode cX9_hallPart 181 = .ok (.aload_n 0, 1) := by decide +kernel
theorem dX9_hallPart_182 : decode cX9_hallPart 182 = .ok (.iconst 0, 1) := by decide +kernel
theorem dX9_hallPart_183 : decode cX9_hallPart 183 = .ok (.sipush 9999, 3) := by decide +kernel
theorem dX9_hallPart_186 : decode cX9_hallPart 186 = .ok (.invokevirtual 291, 3) := by decide +kernel
theorem dX9_hallPart_189 : decode cX9_hallPart 189 = .ok (.istore_n 3, 1) := by decide +kernel
theorem dX9_hallPart_190 : decode cX9_hallPart 190 = .ok (.aload_n 0, 1) := by decide +kernel
theorem dX9_hallPart_191 : decode cX9_hallPart 191 = .ok (.getfield 193, 3) := by decide +kernel
theorem dX9_hallPart_194 : decode cX9_hallPart 194 = .ok (.ifCond .ne 10, 3) := by decide +kernel
theorem dX9_hallPart_197 : decode cX9_hallPart 197 = .ok (.aload_n 0, 1) := by decide +kernel
theorem dX9_hallPart_198 : decode cX9_hallPart 198 = .ok (.getfield 49, 3) := by decide +kernel
theorem dX9_hallPart_201 : decode cX9_hallPart 201 = .ok (.iload_n 2, 1) := by decide +kernel
theorem dX9_hallPart_202 : decode cX9_hallPart 202 = .ok (.iload_n 3, 1) := by decide +kernel
theorem dX9_hallPart_203 : decode cX9_hallPart 203 = .ok (.iastore, 1) := by decide +kernel
theorem dX9_hallPart_204 : decode cX9_hallPart 204 = .ok (.return_, 1) := by decide +kernel
theorem dX9_isFull_0 : decode cX9_isFull 0 = .ok (.aload_n 0, 1) := by decide +kernel
theorem dX9_isFull_1 : decode cX9_isFull 1 = .ok (.getfield 46, 3) := by decide +kernel
theorem dX9_isFull_4 : decode cX9_isFull 4 = .ok (.iconst 0, 1) := by decide +kernel
theorem dX9_isFull_5 : decode cX9_isFull 5 = .ok (.iaload, 1) := by decide +kernel
theorem dX9_isFull_6 : decode cX9_isFull 6 = .ok (.ifCond .le 7, 3) := by decide +kernel
theorem dX9_isFull_9 : decode cX9_isFull 9 = .ok (.iconst 1, 1) := by decide +kernel
theorem dX9_isFull_10 : decode cX9_isFull 10 = .ok (.goto 4, 3) := by decide +kernel
theorem dX9_isFull_13 : decode cX9_isFull 13 = .ok (.iconst 0, 1) := by decide +kernel
theorem dX9_isFull_14 : decode cX9_isFull 14 = .ok (.istore_n 3, 1) := by decide +kernel
theorem dX9_isFull_15 : decode cX9_isFull 15 = .ok (.iload_n 2, 1) := by decide +kernel
theorem dX9_isFull_16 : decode cX9_isFull 16 = .ok (.bipush 32, 2) := by decide +kernel
theorem dX9_isFull_18 : decode cX9_isFull 18 = .ok (.if_icmp .eq 16, 3) := by decide +kernel
theorem dX9_isFull_21 : decode cX9_isFull 21 = .ok (.iload_n 1, 1) := by decide +kernel
theorem dX9_isFull_22 : decode cX9_isFull 22 = .ok (.ifCond .ne 7, 3) := by decide +kernel
theorem dX9_isFull_25 : decode cX9_isFull 25 = .ok (.iconst 1, 1) := by decide +kernel
theorem dX9_isFull_26 : decode cX9_isFull 26 = .ok (.goto 4, 3) := by decide +kernel
theorem dX9_isFull_29 : decode cX9_isFull 29 = .ok (.iconst 0, 1) := by decide +kernel
theorem dX9_isFull_30 : decode cX9_isFull 30 = .ok (.iload_n 3, 1) := by decide +kernel
theorem dX9_isFull_31 : decode cX9_isFull 31 = .ok (.if_icmp .ne 5, 3) := by decide +kernel
theorem dX9_isFull_34 : decode cX9_isFull 34 = .ok (.iconst 1, 1) := by decide +kernel
theorem dX9_isFull_35 : decode cX9_isFull 35 = .ok (.ireturn, 1) := by decide +kernel
theorem dX9_isFull_36 : decode cX9_isFull 36 = .ok (.iload_n 1, 1) := by decide +kernel
theorem dX9_isFull_37 : decode cX9_isFull 37 = .ok (.tableswitch 87 1 4 #[31, 48, 65, 82], 31) := by decide +kernel
theorem dX9_isFull_68 : decode cX9_isFull 68 = .ok (.aload_n 0, 1) := by decide +kernel
theorem dX9_isFull_69 : decode cX9_isFull 69 = .ok (.getfield 46, 3) := by decide +kernel
theorem dX9_isFull_72 : decode cX9_isFull 72 = .ok (.iconst 2, 1) := by decide +kernel
theorem dX9_isFull_73 : decode cX9_isFull 73 = .ok (.iaload, 1) := by decide +kernel
theorem dX9_isFull_74 : decode cX9_isFull 74 = .ok (.bipush 12, 2) := by decide +kernel
theorem dX9_isFull_76 : decode cX9_isFull 76 = .ok (.if_icmp .ne 7, 3) := by decide +kernel
theorem dX9_isFull_79 : decode cX9_isFull 79 = .ok (.iconst 1, 1) := by decide +kernel
theorem dX9_isFull_80 : decode cX9_isFull 80 = .ok (.goto 4, 3) := by decide +kernel
theorem dX9_isFull_83 : decode cX9_isFull 83 = .ok (.iconst 0, 1) := by decide +kernel
theorem dX9_isFull_84 : decode cX9_isFull 84 = .ok (.ireturn, 1) := by decide +kernel
theorem dX9_isFull_85 : decode cX9_isFull 85 = .ok (.aload_n 0, 1) := by decide +kernel
theorem dX9_isFull_86 : decode cX9_isFull 86 = .ok (.getfield 46, 3) := by decide +kernel
theorem dX9_isFull_89 : decode cX9_isFull 89 = .ok (.iconst 3, 1) := by decide +kernel
theorem dX9_isFull_90 : decode cX9_isFull 90 = .ok (.iaload, 1) := by decide +kernel
theorem dX9_isFull_91 : decode cX9_isFull 91 = .ok (.bipush 6, 2) := by decide +kernel
theorem dX9_isFull_93 : decode cX9_isFull 93 = .ok (.if_icmp .ne 7, 3) := by decide +kernel
theorem dX9_isFull_96 : decode cX9_isFull 96 = .ok (.iconst 1, 1) := by decide +kernel
theorem dX9_isFull_97 : decode cX9_isFull 97 = .ok (.goto 4, 3) := by decide +kernel
theorem dX9_isFull_100 : decode cX9_isFull 100 = .ok (.iconst 0, 1) := by decide +kernel
theorem dX9_isFull_101 : decode cX9_isFull 101 = .ok (.ireturn, 1) := by decide +kernel
theorem dX9_isFull_102 : decode cX9_isFull 102 = .ok (.aload_n 0, 1) := by decide +kernel
theorem dX9_isFull_103 : decode cX9_isFull 103 = .ok (.getfield 46, 3) := by decide +kernel
theorem dX9_isFull_106 : decode cX9_isFull 106 = .ok (.iconst 4, 1) := by decide +kernel
theorem dX9_isFull_107 : decode cX9_isFull 107 = .ok (.iaload, 1) := by decide +kernel
theorem dX9_isFull_108 : decode cX9_isFull 108 = .ok (.bipush 8, 2) := by decide +kernel
theorem dX9_isFull_110 : decode cX9_isFull 110 = .ok (.if_icmp .ne 7, 3) := by decide +kernel
theorem dX9_isFull_113 : decode cX9_isFull 113 = .ok (.iconst 1, 1) := by decide +kernel
theorem dX9_isFull_114 : decode cX9_isFull 114 = .ok (.goto 4, 3) := by decide +kernel
theorem dX9_isFull_117 : decode cX9_isFull 117 = .ok (.iconst 0, 1) := by decide +kernel
theorem dX9_isFull_118 : decode cX9_isFull 118 = .ok (.ireturn, 1) := by decide +kernel
theorem dX9_isFull_119 : decode cX9_isFull 119 = .ok (.aload_n 0, 1) := by decide +kernel
theorem dX9_isFull_120 : decode cX9_isFull 120 = .ok (.getfield 301, 3) := by decide +kernel
theorem dX9_isFull_123 : decode cX9_isFull 123 = .ok (.ireturn, 1) := by decide +kernel
theorem dX9_isFull_124 : decode cX9_isFull 124 = .ok (.iconst 0, 1) := by decide +kernel
theorem dX9_isFull_125 : decode cX9_isFull 125 = .ok (.ireturn, 1) := by decide +kernel
theorem dX9_hallClause_0 : decode cX9_hallClause 0 = .ok (.aload_n 0, 1) := by decide +kernel
theorem dX9_hallClause_1 : decode cX9_hallClause 1 = .ok (.invokevirtual 216, 3) := by decide +kernel
theorem dX9_hallClause_4 : decode cX9_hallClause 4 = .ok (.aload_n 0, 1) := by decide +kernel
theorem dX9_hallClause_5 : decode cX9_hallClause 5 = .ok (.getfield 196, 3) := by decide +kernel
theorem dX9_hallClause_8 : decode cX9_hallClause 8 = .ok (.istore_n 2, 1) := by decide +kernel
theorem dX9_hallClause_9 : decode cX9_hallClause 9 = .ok (.iconst 0, 1) := by decide +kernel
theorem dX9_hallClause_10 : decode cX9_hallClause 10 = .ok (.istore_n 3, 1) := by decide +kernel
theorem dX9_hallClause_11 : decode cX9_hallClause 11 = .ok (.iload_n 3, 1) := by decide +kernel
theorem dX9_hallClause_12 : decode cX9_hallClause 12 = .ok (.bipush 6, 2) := by decide +kernel
theorem dX9_hallClause_14 : decode cX9_hallClause 14 = .ok (.if_icmp .ge 20, 3) := by decide +kernel
theorem dX9_hallClause_17 : decode cX9_hallClause 17 = .ok (.aload_n 0, 1) := by decide +kernel
theorem dX9_hallClause_18 : decode cX9_hallClause 18 = .ok (.iload_n 3, 1) := by decide +kernel
theorem dX9_hallClause_19 : decode cX9_hallClause 19 = .ok (.invokestatic 305, 3) := by decide +kernel
theorem dX9_hallClause_22 : decode cX9_hallClause 22 = .ok (.invokevirtual 219, 3) := by decide +kernel
theorem dX9_hallClause_25 : decode cX9_hallClause 25 = .ok (.ifCond .ne 9, 3) := by decide +kernel
theorem dX9_hallClause_28 : decode cX9_hallClause 28 = .ok (.iinc 3 1, 3) := by decide +kernel
theorem dX9_hallClause_31 : decode cX9_hallClause 31 = .ok (.goto (-20), 3) := by decide +kernel
theorem dX9_hallClause_34 : decode cX9_hallClause 34 = .ok (.iload_n 3, 1) := by decide +kernel
theorem dX9_hallClause_35 : decode cX9_hallClause 35 = .ok (.bipush 6, 2) := by decide +kernel
theorem dX9_hallClause_37 : decode cX9_hallClause 37 = .ok (.if_icmp .ne 10, 3) := by decide +kernel
theorem dX9_hallClause_40 : decode cX9_hallClause 40 = .ok (.aload_n 0, 1) := by decide +kernel
theorem dX9_hallClause_41 : decode cX9_hallClause 41 = .ok (.iconst 0, 1) := by decide +kernel
theorem dX9_hallClause_42 : decode cX9_hallClause 42 = .ok (.iload_n 2, 1) := by decide +kernel
theorem dX9_hallClause_43 : decode cX9_hallClause 43 = .ok (.invokevirtual 232, 3) := by decide +kernel
theorem dX9_hallClause_46 : decode cX9_hallClause 46 = .ok (.return_, 1) := by decide +kernel
theorem dX9_hallClause_47 : decode cX9_hallClause 47 = .ok (.aload_n 0, 1) := by decide +kernel
theorem dX9_hallClause_48 : decode cX9_hallClause 48 = .ok (.iload_n 3, 1) := by decide +kernel
theorem dX9_hallClause_49 : decode cX9_hallClause 49 = .ok (.iload_n 1, 1) := by decide +kernel
theorem dX9_hallClause_50 : decode cX9_hallClause 50 = .ok (.invokevirtual 308, 3) := by decide +kernel
theorem dX9_hallClause_53 : decode cX9_hallClause 53 = .ok (.ifCond .eq 10, 3) := by decide +kernel
theorem dX9_hallClause_56 : decode cX9_hallClause 56 = .ok (.aload_n 0, 1) := by decide +kernel
theorem dX9_hallClause_57 : decode cX9_hallClause 57 = .ok (.iconst 4, 1) := by decide +kernel
theorem dX9_hallClause_58 : decode cX9_hallClause 58 = .ok (.iload_n 2, 1) := by decide +kernel
theorem dX9_hallClause_59 : decode cX9_hallClause 59 = .ok (.invokevirtual 232, 3) := by decide +kernel
theorem dX9_hallClause_62 : decode cX9_hallClause 62 = .ok (.return_, 1) := by decide +kernel
theorem dX9_hallClause_63 : decode cX9_hallClause 63 = .ok (.aload_n 0, 1) := by decide +kernel
theorem dX9_hallClause_64 : decode cX9_hallClause 64 = .ok (.dup, 1) := by decide +kernel
theorem dX9_hallClause_65 : decode cX9_hallClause 65 = .ok (.getfield 196, 3) := by decide +kernel
theorem dX9_hallClause_68 : decode cX9_hallClause 68 = .ok (.iload_n 3, 1) := by decide +kernel
theorem dX9_hallClause_69 : decode cX9_hallClause 69 = .ok (.invokestatic 305, 3) := by decide +kernel
theorem dX9_hallClause_72 : decode cX9_hallClause 72 = .ok (.invokevirtual 207, 3) := by decide +kernel
theorem dX9_hallClause_75 : decode cX9_hallClause 75 = .ok (.iadd, 1) := by decide +kernel
theorem dX9_hallClause_76 : decode cX9_hallClause 76 = .ok (.putfield 196, 3) := by decide +kernel
theorem dX9_hallClause_79 : decode cX9_hallClause 79 = .ok (.aload_n 0, 1) := by decide +kernel
theorem dX9_hallClause_80 : decode cX9_hallClause 80 = .ok (.iload_n 3, 1) := by decide +kernel
theorem dX9_hallClause_81 : decode cX9_hallClause 81 = .ok (.invokevirtual 311, 3) := by decide +kernel
theorem dX9_hallClause_84 : decode cX9_hallClause 84 = .ok (.return_, 1) := by decide +kernel
theorem dX9_lay_0 : decode cX9_lay 0 = .ok (.iconst 0, 1) := by decide +kernel
theorem dX9_lay_1 : decode cX9_lay 1 = .ok (.istore_n 2, 1) := by decide +kernel
theorem dX9_lay_2 : decode cX9_lay 2 = .ok (.iload_n 2, 1) := by decide +kernel
theorem dX9_lay_3 : decode cX9_lay 3 = .ok (.aload_n 0, 1) := by decide +kernel
theorem dX9_lay_4 : decode cX9_lay 4 = .ok (.arraylength, 1) := by decide +kernel
theorem dX9_lay_5 : decode cX9_lay 5 = .ok (.if_icmp .ge 15, 3) := by decide +kernel
theorem dX9_lay_8 : decode cX9_lay 8 = .ok (.aload_n 1, 1) := by decide +kernel
theorem dX9_lay_9 : decode cX9_lay 9 = .ok (.iload_n 2, 1) := by decide +kernel
theorem dX9_lay_10 : decode cX9_lay 10 = .ok (.aload_n 0, 1) := by decide +kernel
theorem dX9_lay_11 : decode cX9_lay 11 = .ok (.iload_n 2, 1) := by decide +kernel
theorem dX9_lay_12 : decode cX9_lay 12 = .ok (.iaload, 1) := by decide +kernel
theorem dX9_lay_13 : decode cX9_lay 13 = .ok (.iastore, 1) := by decide +kernel
theorem dX9_lay_14 : decode cX9_lay 14 = .ok (.iinc 2 1, 3) := by decide +kernel
theorem dX9_lay_17 : decode cX9_lay 17 = .ok (.goto (-15), 3) := by decide +kernel
theorem dX9_lay_20 : decode cX9_lay 20 = .ok (.return_, 1) := by decide +kernel
theorem dX9_goesOn_0 : decode cX9_goesOn 0 = .ok (.aload_n 0, 1) := by decide +kernel
theorem dX9_goesOn_1 : decode cX9_goesOn 1 = .ok (.invokevirtual 216, 3) := by decide +kernel
theorem dX9_goesOn_4 : decode cX9_goesOn 4 = .ok (.aload_n 0, 1) := by decide +kernel
theorem dX9_goesOn_5 : decode cX9_goesOn 5 = .ok (.getfield 193, 3) := by decide +kernel
theorem dX9_goesOn_8 : decode cX9_goesOn 8 = .ok (.ifCond .ne 32, 3) := by decide +kernel
theorem dX9_goesOn_11 : decode cX9_goesOn 11 = .ok (.aload_n 0, 1) := by decide +kernel
theorem dX9_goesOn_12 : decode cX9_goesOn 12 = .ok (.getfield 196, 3) := by decide +kernel
theorem dX9_goesOn_15 : decode cX9_goesOn 15 = .ok (.aload_n 0, 1) := by decide +kernel
theorem dX9_goesOn_16 : decode cX9_goesOn 16 = .ok (.getfield 158, 3) := by decide +kernel
theorem dX9_goesOn_19 : decode cX9_goesOn 19 = .ok (.if_icmp .ge 21, 3) := by decide +kernel
theorem dX9_goesOn_22 : decode cX9_goesOn 22 = .ok (.aload_n 0, 1) := by decide +kernel
theorem dX9_goesOn_23 : decode cX9_goesOn 23 = .ok (.invokevirtual 199, 3) := by decide +kernel
theorem dX9_goesOn_26 : decode cX9_goesOn 26 = .ok (.bipush 59, 2) := by decide +kernel
theorem dX9_goesOn_28 : decode cX9_goesOn 28 = .ok (.if_icmp .eq 12, 3) := by decide +kernel
theorem dX9_goesOn_31 : decode cX9_goesOn 31 = .ok (.aload_n 0, 1) := by decide +kernel
theorem dX9_goesOn_32 : decode cX9_goesOn 32 = .ok (.iconst 0, 1) := by decide +kernel
theorem dX9_goesOn_33 : decode cX9_goesOn 33 = .ok (.aload_n 0, 1) := by decide +kernel
theorem dX9_goesOn_34 : decode cX9_goesOn 34 = .ok (.getfield 196, 3) := by decide +kernel
theorem dX9_goesOn_37 : decode cX9_goesOn 37 = .ok (.invokevirtual 232, 3) := by decide +kernel
theorem dX9_goesOn_40 : decode cX9_goesOn 40 = .ok (.aload_n 0, 1) := by decide +kernel
theorem dX9_goesOn_41 : decode cX9_goesOn 41 = .ok (.getfield 193, 3) := by decide +kernel
theorem dX9_goesOn_44 : decode cX9_goesOn 44 = .ok (.ifCond .ne 18, 3) := by decide +kernel
theorem dX9_goesOn_47 : decode cX9_goesOn 47 = .ok (.aload_n 0, 1) := by decide +kernel
theorem dX9_goesOn_48 : decode cX9_goesOn 48 = .ok (.getfield 196, 3) := by decide +kernel
theorem dX9_goesOn_51 : decode cX9_goesOn 51 = .ok (.aload_n 0, 1) := by decide +kernel
theorem dX9_goesOn_52 : decode cX9_goesOn 52 = .ok (.getfield 158, 3) := by decide +kernel
theorem dX9_goesOn_55 : decode cX9_goesOn 55 = .ok (.if_icmp .ge 7, 3) := by decide +kernel
theorem dX9_goesOn_58 : decode cX9_goesOn 58 = .ok (.iconst 1, 1) := by decide +kernel
theorem dX9_goesOn_59 : decode cX9_goesOn 59 = .ok (.goto 4, 3) := by decide +kernel
theorem dX9_goesOn_62 : decode cX9_goesOn 62 = .ok (.iconst 0, 1) := by decide +kernel
theorem dX9_goesOn_63 : decode cX9_goesOn 63 = .ok (.istore_n 1, 1) := by decide +kernel
theorem dX9_goesOn_64 : decode cX9_goesOn 64 = .ok (.aload_n 0, 1) := by decide +kernel
theorem dX9_goesOn_65 : decode cX9_goesOn 65 = .ok (.dup, 1) := by decide +kernel
theorem dX9_goesOn_66 : decode cX9_goesOn 66 = .ok (.getfield 196, 3) := by decide +kernel
theorem dX9_goesOn_69 : decode cX9_goesOn 69 = .ok (.iconst 1, 1) := by decide +kernel
theorem dX9_goesOn_70 : decode cX9_goesOn 70 = .ok (.iadd, 1) := by decide +kernel
theorem dX9_goesOn_71 : decode cX9_goesOn 71 = .ok (.putfield 196, 3) := by decide +kernel
theorem dX9_goesOn_74 : decode cX9_goesOn 74 = .ok (.iload_n 1, 1) := by decide +kernel
theorem dX9_goesOn_75 : decode cX9_goesOn 75 = .ok (.ireturn, 1) := by decide +kernel
theorem dX9_starts_0 : decode cX9_starts 0 = .ok (.aload_n 0, 1) := by decide +kernel
theorem dX9_starts_1 : decode cX9_starts 1 = .ok (.iconst 0, 1) := by decide +kernel
theorem dX9_starts_2 : decode cX9_starts 2 = .ok (.putfield 196, 3) := by decide +kernel
theorem dX9_starts_5 : decode cX9_starts 5 = .ok (.aload_n 0, 1) := by decide +kernel
theorem dX9_starts_6 : decode cX9_starts 6 = .ok (.iconst 0, 1) := by decide +kernel
theorem dX9_starts_7 : decode cX9_starts 7 = .ok (.putfield 193, 3) := by decide +kernel
theorem dX9_starts_10 : decode cX9_starts 10 = .ok (.aload_n 0, 1) := by decide +kernel
theorem dX9_starts_11 : decode cX9_starts 11 = .ok (.iconst 0, 1) := by decide +kernel
theorem dX9_starts_12 : decode cX9_starts 12 = .ok (.putfield 226, 3) := by decide +kernel
theorem dX9_starts_15 : decode cX9_starts 15 = .ok (.aload_n 0, 1) := by decide +kernel
theorem dX9_starts_16 : decode cX9_starts 16 = .ok (.iconst 0, 1) := by decide +kernel
theorem dX9_starts_17 : decode cX9_starts 17 = .ok (.putfield 267, 3) := by decide +kernel
theorem dX9_starts_20 : decode cX9_starts 20 = .ok (.aload_n 0, 1) := by decide +kernel
theorem dX9_starts_21 : decode cX9_starts 21 = .ok (.iconst 0, 1) := by decide +kernel
theorem dX9_starts_22 : decode cX9_starts 22 = .ok (.putfield 229, 3) := by decide +kernel
theorem dX9_starts_25 : decode cX9_starts 25 = .ok (.return_, 1) := by decide +kernel
theorem dX9_hall_0 : decode cX9_hall 0 = .ok (.aload_n 0, 1) := by decide +kernel
theorem dX9_hall_1 : decode cX9_hall 1 = .ok (.invokevirtual 314, 3) := by decide +kernel
theorem dX9_hall_4 : decode cX9_hall 4 = .ok (.aload_n 0, 1) := by decide +kernel
theorem dX9_hall_5 : decode cX9_hall 5 = .ok (.iconst 0, 1) := by decide +kernel
theorem dX9_hall_6 : decode cX9_hall 6 = .ok (.putfield 301, 3) := by decide +kernel
theorem dX9_hall_9 : decode cX9_hall 9 = .ok (.iconst 0, 1) := by decide +kernel
theorem dX9_hall_10 : decode cX9_hall 10 = .ok (.istore_n 1, 1) := by decide +kernel
theorem dX9_hall_11 : decode cX9_hall 11 = .ok (.iload_n 1, 1) := by decide +kernel
theorem dX9_hall_12 : decode cX9_hall 12 = .ok (.bipush 6, 2) := by decide +kernel
theorem dX9_hall_14 : decode cX9_hall 14 = .ok (.if_icmp .ge 16, 3) := by decide +kernel
theorem dX9_hall_17 : decode cX9_hall 17 = .ok (.aload_n 0, 1) := by decide +kernel
theorem dX9_hall_18 : decode cX9_hall 18 = .ok (.getfield 46, 3) := by decide +kernel
theorem dX9_hall_21 : decode cX9_hall 21 = .ok (.iload_n 1, 1) := by decide +kernel
theorem dX9_hall_22 : decode cX9_hall 22 = .ok (.iconst 0, 1) := by decide +kernel
theorem dX9_hall_23 : decode cX9_hall 23 = .ok (.iastore, 1) := by decide +kernel
theorem dX9_hall_24 : decode cX9_hall 24 = .ok (.iinc 1 1, 3) := by decide +kernel
theorem dX9_hall_27 : decode cX9_hall 27 = .ok (.goto (-16), 3) := by decide +kernel
theorem dX9_hall_30 : decode cX9_hall 30 = .ok (.iconst 0, 1) := by decide +kernel
theorem dX9_hall_31 : decode cX9_hall 31 = .ok (.istore_n 1, 1) := by decide +kernel
theorem dX9_hall_32 : decode cX9_hall 32 = .ok (.iload_n 1, 1) := by decide +kernel
theorem dX9_hall_33 : decode cX9_hall 33 = .ok (.bipush 80, 2) := by decide +kernel
theorem dX9_hall_35 : decode cX9_hall 35 = .ok (.if_icmp .ge 16, 3) := by decide +kernel
theorem dX9_hall_38 : decode cX9_hall 38 = .ok (.aload_n 0, 1) := by decide +kernel
theorem dX9_hall_39 : decode cX9_hall 39 = .ok (.getfield 49, 3) := by decide +kernel
theorem dX9_hall_42 : decode cX9_hall 42 = .ok (.iload_n 1, 1) := by decide +kernel
theorem dX9_hall_43 : decode cX9_hall 43 = .ok (.iconst 0, 1) := by decide +kernel
theorem dX9_hall_44 : decode cX9_hall 44 = .ok (.iastore, 1) := by decide +kernel
theorem dX9_hall_45 : decode cX9_hall 45 = .ok (.iinc 1 1, 3) := by decide +kernel
theorem dX9_hall_48 : decode cX9_hall 48 = .ok (.goto (-16), 3) := by decide +kernel
theorem dX9_hall_51 : decode cX9_hall 51 = .ok (.iconst 0, 1) := by decide +kernel
theorem dX9_hall_52 : decode cX9_hall 52 = .ok (.istore_n 1, 1) := by decide +kernel
theorem dX9_hall_53 : decode cX9_hall 53 = .ok (.iconst 1, 1) := by decide +kernel
theorem dX9_hall_54 : decode cX9_hall 54 = .ok (.istore_n 2, 1) := by decide +kernel
theorem dX9_hall_55 : decode cX9_hall 55 = .ok (.iload_n 2, 1) := by decide +kernel
theorem dX9_hall_56 : decode cX9_hall 56 = .ok (.ifCond .eq 19, 3) := by decide +kernel
theorem dX9_hall_59 : decode cX9_hall 59 = .ok (.aload_n 0, 1) := by decide +kernel
theorem dX9_hall_60 : decode cX9_hall 60 = .ok (.iload_n 1, 1) := by decide +kernel
theorem dX9_hall_61 : decode cX9_hall 61 = .ok (.invokevirtual 317, 3) := by decide +kernel
theorem dX9_hall_64 : decode cX9_hall 64 = .ok (.iinc 1 1, 3) := by decide +kernel
theorem dX9_hall_67 : decode cX9_hall 67 = .ok (.aload_n 0, 1) := by decide +kernel
theorem dX9_hall_68 : decode cX9_hall 68 = .ok (.invokevirtual 320, 3) := by decide +kernel
theorem dX9_hall_71 : decode cX9_hall 71 = .ok (.istore_n 2, 1) := by decide +kernel
theorem dX9_hall_72 : decode cX9_hall 72 = .ok (.goto (-17), 3) := by decide +kernel
theorem dX9_hall_75 : decode cX9_hall 75 = .ok (.aload_n 0, 1) := by decide +kernel
theorem dX9_hall_76 : decode cX9_hall 76 = .ok (.iconst 0, 1) := by decide +kernel
theorem dX9_hall_77 : decode cX9_hall 77 = .ok (.putfield 158, 3) := by decide +kernel
theorem dX9_hall_80 : decode cX9_hall 80 = .ok (.aload_n 0, 1) := by decide +kernel
theorem dX9_hall_81 : decode cX9_hall 81 = .ok (.getfield 193, 3) := by decide +kernel
theorem dX9_hall_84 : decode cX9_hall 84 = .ok (.ifCond .le 11, 3) := by decide +kernel
theorem dX9_hall_87 : decode cX9_hall 87 = .ok (.bipush (-2), 2) := by decide +kernel
theorem dX9_hall_89 : decode cX9_hall 89 = .ok (.aload_n 0, 1) := by decide +kernel
theorem dX9_hall_90 : decode cX9_hall 90 = .ok (.getfield 193, 3) := by decide +kernel
theorem dX9_hall_93 : decode cX9_hall 93 = .ok (.isub, 1) := by decide +kernel
theorem dX9_hall_94 : decode cX9_hall 94 = .ok (.ireturn, 1) := by decide +kernel
theorem dX9_hall_95 : decode cX9_hall 95 = .ok (.aload_n 0, 1) := by decide +kernel
theorem dX9_hall_96 : decode cX9_hall 96 = .ok (.getfield 7, 3) := by decide +kernel
theorem dX9_hall_99 : decode cX9_hall 99 = .ok (.bipush 13, 2) := by decide +kernel
theorem dX9_hall_101 : decode cX9_hall 101 = .ok (.iaload, 1) := by decide +kernel
theorem dX9_hall_102 : decode cX9_hall 102 = .ok (.istore_n 3, 1) := by decide +kernel
theorem dX9_hall_103 : decode cX9_hall 103 = .ok (.iconst 0, 1) := by decide +kernel
theorem dX9_hall_104 : decode cX9_hall 104 = .ok (.istore 4, 2) := by decide +kernel
theorem dX9_hall_106 : decode cX9_hall 106 = .ok (.iload 4, 2) := by decide +kernel
theorem dX9_hall_108 : decode cX9_hall 108 = .ok (.aload_n 0, 1) := by decide +kernel
theorem dX9_hall_109 : decode cX9_hall 109 = .ok (.getfield 7, 3) := by decide +kernel
theorem dX9_hall_112 : decode cX9_hall 112 = .ok (.arraylength, 1) := by decide +kernel
theorem dX9_hall_113 : decode cX9_hall 113 = .ok (.if_icmp .ge 34, 3) := by decide +kernel
theorem dX9_hall_116 : decode cX9_hall 116 = .ok (.aload_n 0, 1) := by decide +kernel
theorem dX9_hall_117 : decode cX9_hall 117 = .ok (.getfield 7, 3) := by decide +kernel
theorem dX9_hall_120 : decode cX9_hall 120 = .ok (.iload 4, 2) := by decide +kernel
theorem dX9_hall_122 : decode cX9_hall 122 = .ok (.iload 4, 2) := by decide +kernel
theorem dX9_hall_124 : decode cX9_hall 124 = .ok (.bipush 6, 2) := by decide +kernel
theorem dX9_hall_126 : decode cX9_hall 126 = .ok (.if_icmp .ge 13, 3) := by decide +kernel
theorem dX9_hall_129 : decode cX9_hall 129 = .ok (.aload_n 0, 1) := by decide +kernel
theorem dX9_hall_130 : decode cX9_hall 130 = .ok (.getfield 46, 3) := by decide +kernel
theorem dX9_hall_133 : decode cX9_hall 133 = .ok (.iload 4, 2) := by decide +kernel
theorem dX9_hall_135 : decode cX9_hall 135 = .ok (.iaload, 1) := by decide +kernel
theorem dX9_hall_136 : decode cX9_hall 136 = .ok (.goto 4, 3) := by decide +kernel
theorem dX9_hall_139 : decode cX9_hall 139 = .ok (.iconst 0, 1) := by decide +kernel
theorem dX9_hall_140 : decode cX9_hall 140 = .ok (.iastore, 1) := by decide +kernel
theorem dX9_hall_141 : decode cX9_hall 141 = .ok (.iinc 4 1, 3) := by decide +kernel
theorem dX9_hall_144 : decode cX9_hall 144 = .ok (.goto (-38), 3) := by decide +kernel
theorem dX9_hall_147 : decode cX9_hall 147 = .ok (.aload_n 0, 1) := by decide +kernel
theorem dX9_hall_148 : decode cX9_hall 148 = .ok (.getfield 7, 3) := by decide +kernel
theorem dX9_hall_151 : decode cX9_hall 151 = .ok (.bipush 13, 2) := by decide +kernel
theorem dX9_hall_153 : decode cX9_hall 153 = .ok (.iload_n 3, 1) := by decide +kernel
theorem dX9_hall_154 : decode cX9_hall 154 = .ok (.iastore, 1) := by decide +kernel
theorem dX9_hall_155 : decode cX9_hall 155 = .ok (.aload_n 0, 1) := by decide +kernel
theorem dX9_hall_156 : decode cX9_hall 156 = .ok (.getfield 7, 3) := by decide +kernel
theorem dX9_hall_159 : decode cX9_hall 159 = .ok (.bipush 6, 2) := by decide +kernel
theorem dX9_hall_161 : decode cX9_hall 161 = .ok (.iconst (-1), 1) := by decide +kernel
theorem dX9_hall_162 : decode cX9_hall 162 = .ok (.iastore, 1) := by decide +kernel
theorem dX9_hall_163 : decode cX9_hall 163 = .ok (.aload_n 0, 1) := by decide +kernel
theorem dX9_hall_164 : decode cX9_hall 164 = .ok (.getfield 49, 3) := by decide +kernel
theorem dX9_hall_167 : decode cX9_hall 167 = .ok (.aload_n 0, 1) := by decide +kernel
theorem dX9_hall_168 : decode cX9_hall 168 = .ok (.getfield 13, 3) := by decide +kernel
theorem dX9_hall_171 : decode cX9_hall 171 = .ok (.invokestatic 323, 3) := by decide +kernel
theorem dX9_hall_174 : decode cX9_hall 174 = .ok (.aload_n 0, 1) := by decide +kernel
theorem dX9_hall_175 : decode cX9_hall 175 = .ok (.getfield 52, 3) := by decide +kernel
theorem dX9_hall_178 : decode cX9_hall 178 = .ok (.aload_n 0, 1) := by decide +kernel
theorem dX9_hall_179 : decode cX9_hall 179 = .ok (.getfield 16, 3) := by decide +kernel
theorem dX9_hall_182 : decode cX9_hall 182 = .ok (.invokestatic 323, 3) := by decide +kernel
theorem dX9_hall_185 : decode cX9_hall 185 = .ok (.aload_n 0, 1) := by decide +kernel
theorem dX9_hall_186 : decode cX9_hall 186 = .ok (.getfield 55, 3) := by decide +kernel
theorem dX9_hall_189 : decode cX9_hall 189 = .ok (.aload_n 0, 1) := by decide +kernel
theorem dX9_hall_190 : decode cX9_hall 190 = .ok (.getfield 19, 3) := by decide +kernel
theorem dX9_hall_193 : decode cX9_hall 193 = .ok (.invokestatic 323, 3) := by decide +kernel
theorem dX9_hall_196 : decode cX9_hall 196 = .ok (.aload_n 0, 1) := by decide +kernel
theorem dX9_hall_197 : decode cX9_hall 197 = .ok (.getfield 58, 3) := by decide +kernel
theorem dX9_hall_200 : decode cX9_hall 200 = .ok (.aload_n 0, 1) := by decide +kernel
theorem dX9_hall_201 : decode cX9_hall 201 = .ok (.getfield 22, 3) := by decide +kernel
theorem dX9_hall_204 : decode cX9_hall 204 = .ok (.invokestatic 323, 3) := by decide +kernel
theorem dX9_hall_207 : decode cX9_hall 207 = .ok (.aload_n 0, 1) := by decide +kernel
theorem dX9_hall_208 : decode cX9_hall 208 = .ok (.getfield 61, 3) := by decide +kernel
theorem dX9_hall_211 : decode cX9_hall 211 = .ok (.aload_n 0, 1) := by decide +kernel
theorem dX9_hall_212 : decode cX9_hall 212 = .ok (.getfield 28, 3) := by decide +kernel
theorem dX9_hall_215 : decode cX9_hall 215 = .ok (.invokestatic 323, 3) := by decide +kernel
theorem dX9_hall_218 : decode cX9_hall 218 = .ok (.aload_n 0, 1) := by decide +kernel
theorem dX9_hall_219 : decode cX9_hall 219 = .ok (.getfield 64, 3) := by decide +kernel
theorem dX9_hall_222 : decode cX9_hall 222 = .ok (.aload_n 0, 1) := by decide +kernel
theorem dX9_hall_223 : decode cX9_hall 223 = .ok (.getfield 31, 3) := by decide +kernel
theorem dX9_hall_226 : decode cX9_hall 226 = .ok (.invokestatic 323, 3) := by decide +kernel
theorem dX9_hall_229 : decode cX9_hall 229 = .ok (.aload_n 0, 1) := by decide +kernel
theorem dX9_hall_230 : decode cX9_hall 230 = .ok (.getfield 67, 3) := by decide +kernel
theorem dX9_hall_233 : decode cX9_hall 233 = .ok (.aload_n 0, 1) := by decide +kernel
theorem dX9_hall_234 : decode cX9_hall 234 = .ok (.getfield 34, 3) := by decide +kernel
theorem dX9_hall_237 : decode cX9_hall 237 = .ok (.invokestatic 323, 3) := by decide +kernel
theorem dX9_hall_240 : decode cX9_hall 240 = .ok (.aload_n 0, 1) := by decide +kernel
theorem dX9_hall_241 : decode cX9_hall 241 = .ok (.getfield 70, 3) := by decide +kernel
theorem dX9_hall_244 : decode cX9_hall 244 = .ok (.aload_n 0, 1) := by decide +kernel
theorem dX9_hall_245 : decode cX9_hall 245 = .ok (.getfield 37, 3) := by decide +kernel
theorem dX9_hall_248 : decode cX9_hall 248 = .ok (.invokestatic 323, 3) := by decide +kernel
theorem dX9_hall_251 : decode cX9_hall 251 = .ok (.aload_n 0, 1) := by decide +kernel
theorem dX9_hall_252 : decode cX9_hall 252 = .ok (.getfield 73, 3) := by decide +kernel
theorem dX9_hall_255 : decode cX9_hall 255 = .ok (.aload_n 0, 1) := by decide +kernel
theorem dX9_hall_256 : decode cX9_hall 256 = .ok (.getfield 40, 3) := by decide +kernel
theorem dX9_hall_259 : decode cX9_hall 259 = .ok (.invokestatic 323, 3) := by decide +kernel
theorem dX9_hall_262 : decode cX9_hall 262 = .ok (.iconst 0, 1) := by decide +kernel
theorem dX9_hall_263 : decode cX9_hall 263 = .ok (.istore 4, 2) := by decide +kernel
theorem dX9_hall_265 : decode cX9_hall 265 = .ok (.iload 4, 2) := by decide +kernel
theorem dX9_hall_267 : decode cX9_hall 267 = .ok (.bipush 12, 2) := by decide +kernel
theorem dX9_hall_269 : decode cX9_hall 269 = .ok (.if_icmp .ge 17, 3) := by decide +kernel
theorem dX9_hall_272 : decode cX9_hall 272 = .ok (.aload_n 0, 1) := by decide +kernel
theorem dX9_hall_273 : decode cX9_hall 273 = .ok (.getfield 25, 3) := by decide +kernel
theorem dX9_hall_276 : decode cX9_hall 276 = .ok (.iload 4, 2) := by decide +kernel
theorem dX9_hall_278 : decode cX9_hall 278 = .ok (.iconst 0, 1) := by decide +kernel
theorem dX9_hall_279 : decode cX9_hall 279 = .ok (.iastore, 1) := by decide +kernel
theorem dX9_hall_280 : decode cX9_hall 280 = .ok (.iinc 4 1, 3) := by decide +kernel
theorem dX9_hall_283 : decode cX9_hall 283 = .ok (.goto (-18), 3) := by decide +kernel
theorem dX9_hall_286 : decode cX9_hall 286 = .ok (.aload_n 0, 1) := by decide +kernel
theorem dX9_hall_287 : decode cX9_hall 287 = .ok (.getfield 7, 3) := by decide +kernel
theorem dX9_hall_290 : decode cX9_hall 290 = .ok (.bipush 11, 2) := by decide +kernel
theorem dX9_hall_292 : decode cX9_hall 292 = .ok (.aload_n 0, 1) := by decide +kernel
theorem dX9_hall_293 : decode cX9_hall 293 = .ok (.invokevirtual 327, 3) := by decide +kernel
theorem dX9_hall_296 : decode cX9_hall 296 = .ok (.iastore, 1) := by decide +kernel
theorem dX9_hall_297 : decode cX9_hall 297 = .ok (.aload_n 0, 1) := by decide +kernel
theorem dX9_hall_298 : decode cX9_hall 298 = .ok (.getfield 7, 3) := by decide +kernel
theorem dX9_hall_301 : decode cX9_hall 301 = .ok (.iconst 2, 1) := by decide +kernel
theorem dX9_hall_302 : decode cX9_hall 302 = .ok (.iaload, 1) := by decide +kernel
theorem dX9_hall_303 : decode cX9_hall 303 = .ok (.ireturn, 1) := by decide +kernel
theorem dX9_lawClause_0 : decode cX9_lawClause 0 = .ok (.aload_n 0, 1) := by decide +kernel
theorem dX9_lawClause_1 : decode cX9_lawClause 1 = .ok (.invokevirtual 216, 3) := by decide +kernel
theorem dX9_lawClause_4 : decode cX9_lawClause 4 = .ok (.aload_n 0, 1) := by decide +kernel
theorem dX9_lawClause_5 : decode cX9_lawClause 5 = .ok (.getfield 196, 3) := by decide +kernel
theorem dX9_lawClause_8 : decode cX9_lawClause 8 = .ok (.istore_n 2, 1) := by decide +kernel
theorem dX9_lawClause_9 : decode cX9_lawClause 9 = .ok (.aload_n 0, 1) := by decide +kernel
theorem dX9_lawClause_10 : decode cX9_lawClause 10 = .ok (.ldc_w 330, 3) := by decide +kernel
theorem dX9_lawClause_13 : decode cX9_lawClause 13 = .ok (.invokevirtual 219, 3) := by decide +kernel
theorem dX9_lawClause_16 : decode cX9_lawClause 16 = .ok (.ifCond .ne 10, 3) := by decide +kernel
theorem dX9_lawClause_19 : decode cX9_lawClause 19 = .ok (.aload_n 0, 1) := by decide +kernel
theorem dX9_lawClause_20 : decode cX9_lawClause 20 = .ok (.iconst 0, 1) := by decide +kernel
theorem dX9_lawClause_21 : decode cX9_lawClause 21 = .ok (.iload_n 2, 1) := by decide +kernel
theorem dX9_lawClause_22 : decode cX9_lawClause 22 = .ok (.invokevirtual 232, 3) := by decide +kernel
theorem dX9_lawClause_25 : decode cX9_lawClause 25 = .ok (.return_, 1) := by decide +kernel
theorem dX9_lawClause_26 : decode cX9_lawClause 26 = .ok (.iload_n 1, 1) := by decide +kernel
theorem dX9_lawClause_27 : decode cX9_lawClause 27 = .ok (.bipush 12, 2) := by decide +kernel
theorem dX9_lawClause_29 : decode cX9_lawClause 29 = .ok (.if_icmp .ne 10, 3) := by decide +kernel
theorem dX9_lawClause_32 : decode cX9_lawClause 32 = .ok (.aload_n 0, 1) := by decide +kernel
theorem dX9_lawClause_33 : decode cX9_lawClause 33 = .ok (.iconst 4, 1) := by decide +kernel
theorem dX9_lawClause_34 : decode cX9_lawClause 34 = .ok (.iload_n 2, 1) := by decide +kernel
theorem dX9_lawClause_35 : decode cX9_lawClause 35 = .ok (.invokevirtual 232, 3) := by decide +kernel
theorem dX9_lawClause_38 : decode cX9_lawClause 38 = .ok (.return_, 1) := by decide +kernel
theorem dX9_lawClause_39 : decode cX9_lawClause 39 = .ok (.aload_n 0, 1) := by decide +kernel
theorem dX9_lawClause_40 : decode cX9_lawClause 40 = .ok (.dup, 1) := by decide +kernel
theorem dX9_lawClause_41 : decode cX9_lawClause 41 = .ok (.getfield 196, 3) := by decide +kernel
theorem dX9_lawClause_44 : decode cX9_lawClause 44 = .ok (.iconst 2, 1) := by decide +kernel
theorem dX9_lawClause_45 : decode cX9_lawClause 45 = .ok (.iadd, 1) := by decide +kernel
theorem dX9_lawClause_46 : decode cX9_lawClause 46 = .ok (.putfield 196, 3) := by decide +kernel
theorem dX9_lawClause_49 : decode cX9_lawClause 49 = .ok (.bipush 12, 2) := by decide +kernel
theorem dX9_lawClause_51 : decode cX9_lawClause 51 = .ok (.aload_n 0, 1) := by decide +kernel
theorem dX9_lawClause_52 : decode cX9_lawClause 52 = .ok (.getfield 223, 3) := by decide +kernel
theorem dX9_lawClause_55 : decode cX9_lawClause 55 = .ok (.imul, 1) := by decide +kernel
theorem dX9_lawClause_56 : decode cX9_lawClause 56 = .ok (.iload_n 1, 1) := by decide +kernel
theorem dX9_lawClause_57 : decode cX9_lawClause 57 = .ok (.iadd, 1) := by decide +kernel
theorem dX9_lawClause_58 : decode cX9_lawClause 58 = .ok (.istore_n 3, 1) := by decide +kernel
theorem dX9_lawClause_59 : decode cX9_lawClause 59 = .ok (.aload_n 0, 1) := by decide +kernel
theorem dX9_lawClause_60 : decode cX9_lawClause 60 = .ok (.getfield 93, 3) := by decide +kernel
theorem dX9_lawClause_63 : decode cX9_lawClause 63 = .ok (.iload_n 3, 1) := by decide +kernel
theorem dX9_lawClause_64 : decode cX9_lawClause 64 = .ok (.aload_n 0, 1) := by decide +kernel
theorem dX9_lawClause_65 : decode cX9_lawClause 65 = .ok (.getfield 226, 3) := by decide +kernel
theorem dX9_lawClause_68 : decode cX9_lawClause 68 = .ok (.iastore, 1) := by decide +kernel
theorem dX9_lawClause_69 : decode cX9_lawClause 69 = .ok (.aload_n 0, 1) := by decide +kernel
theorem dX9_lawClause_70 : decode cX9_lawClause 70 = .ok (.invokevirtual 261, 3) := by decide +kernel
theorem dX9_lawClause_73 : decode cX9_lawClause 73 = .ok (.aload_n 0, 1) := by decide +kernel
theorem dX9_lawClause_74 : decode cX9_lawClause 74 = .ok (.getfield 96, 3) := by decide +kernel
theorem dX9_lawClause_77 : decode cX9_lawClause 77 = .ok (.iload_n 3, 1) := by decide +kernel
theorem dX9_lawClause_78 : decode cX9_lawClause 78 = .ok (.aload_n 0, 1) := by decide +kernel
theorem dX9_lawClause_79 : decode cX9_lawClause 79 = .ok (.getfield 226, 3) := by decide +kernel
theorem dX9_lawClause_82 : decode cX9_lawClause 82 = .ok (.iastore, 1) := by decide +kernel
theorem dX9_lawClause_83 : decode cX9_lawClause 83 = .ok (.aload_n 0, 1) := by decide +kernel
theorem dX9_lawClause_84 : decode cX9_lawClause 84 = .ok (.getfield 193, 3) := by decide +kernel
theorem dX9_lawClause_87 : decode cX9_lawClause 87 = .ok (.ifCond .ne 17, 3) := by decide +kernel
theorem dX9_lawClause_90 : decode cX9_lawClause 90 = .ok (.aload_n 0, 1) := by decide +kernel
theorem dX9_lawClause_91 : decode cX9_lawClause 91 = .ok (.ldc_w 332, 3) := by decide +kernel
theorem dX9_lawClause_94 : decode cX9_lawClause 94 = .ok (.invokevirtual 334, 3) := by decide +kernel
theorem dX9_lawClause_97 : decode cX9_lawClause 97 = .ok (.ifCond .eq 7, 3) := by decide +kernel
theorem dX9_lawClause_100 : decode cX9_lawClause 100 = .ok (.aload_n 0, 1) := by decide +kernel
theorem dX9_lawClause_101 : decode cX9_lawClause 101 = .ok (.invokevirtual 337, 3) := by decide +kernel
theorem dX9_lawClause_104 : decode cX9_lawClause 104 = .ok (.aload_n 0, 1) := by decide +kernel
theorem dX9_lawClause_105 : decode cX9_lawClause 105 = .ok (.getfield 99, 3) := by decide +kernel
theorem dX9_lawClause_108 : decode cX9_lawClause 108 = .ok (.iload_n 3, 1) := by decide +kernel
theorem dX9_lawClause_109 : decode cX9_lawClause 109 = .ok (.aload_n 0, 1) := by decide +kernel
theorem dX9_lawClause_110 : decode cX9_lawClause 110 = .ok (.getfield 226, 3) := by decide +kernel
theorem dX9_lawClause_113 : decode cX9_lawClause 113 = .ok (.iastore, 1) := by decide +kernel
theorem dX9_lawClause_114 : decode cX9_lawClause 114 = .ok (.return_, 1) := by decide +kernel
theorem dX9_law_0 : decode cX9_law 0 = .ok (.aload_n 0, 1) := by decide +kernel
theorem dX9_law_1 : decode cX9_law 1 = .ok (.getfield 340, 3) := by decide +kernel
theorem dX9_law_4 : decode cX9_law 4 = .ok (.bipush 6, 2) := by decide +kernel
theorem dX9_law_6 : decode cX9_law 6 = .ok (.if_icmp .ne 5, 3) := by decide +kernel
theorem dX9_law_9 : decode cX9_law 9 = .ok (.iconst (-1), 1) := by decide +kernel
theorem dX9_law_10 : decode cX9_law 10 = .ok (.ireturn, 1) := by decide +kernel
theorem dX9_law_11 : decode cX9_law 11 = .ok (.aload_n 0, 1) := by decide +kernel
theorem dX9_law_12 : decode cX9_law 12 = .ok (.aload_n 0, 1) := by decide +kernel
theorem dX9_law_13 : decode cX9_law 13 = .ok (.getfield 340, 3) := by decide +kernel
theorem dX9_law_16 : decode cX9_law 16 = .ok (.putfield 223, 3) := by decide +kernel
theorem dX9_law_19 : decode cX9_law 19 = .ok (.aload_n 0, 1) := by decide +kernel
theorem dX9_law_20 : decode cX9_law 20 = .ok (.invokevirtual 314, 3) := by decide +kernel
theorem dX9_law_23 : decode cX9_law 23 = .ok (.iconst 0, 1) := by decide +kernel
theorem dX9_law_24 : decode cX9_law 24 = .ok (.istore_n 1, 1) := by decide +kernel
theorem dX9_law_25 : decode cX9_law 25 = .ok (.iconst 1, 1) := by decide +kernel
theorem dX9_law_26 : decode cX9_law 26 = .ok (.istore_n 2, 1) := by decide +kernel
theorem dX9_law_27 : decode cX9_law 27 = .ok (.iload_n 2, 1) := by decide +kernel
theorem dX9_law_28 : decode cX9_law 28 = .ok (.ifCond .eq 19, 3) := by decide +kernel
theorem dX9_law_31 : decode cX9_law 31 = .ok (.aload_n 0, 1) := by decide +kernel
theorem dX9_law_32 : decode cX9_law 32 = .ok (.iload_n 1, 1) := by decide +kernel
theorem dX9_law_33 : decode cX9_law 33 = .ok (.invokevirtual 343, 3) := by decide +kernel
theorem dX9_law_36 : decode cX9_law 36 = .ok (.iinc 1 1, 3) := by decide +kernel
theorem dX9_law_39 : decode cX9_law 39 = .ok (.aload_n 0, 1) := by decide +kernel
theorem dX9_law_40 : decode cX9_law 40 = .ok (.invokevirtual 320, 3) := by decide +kernel
theorem dX9_law_43 : decode cX9_law 43 = .ok (.istore_n 2, 1) := by decide +kernel
theorem dX9_law_44 : decode cX9_law 44 = .ok (.goto (-17), 3) := by decide +kernel
theorem dX9_law_47 : decode cX9_law 47 = .ok (.aload_n 0, 1) := by decide +kernel
theorem dX9_law_48 : decode cX9_law 48 = .ok (.iconst 0, 1) := by decide +kernel
theorem dX9_law_49 : decode cX9_law 49 = .ok (.putfield 158, 3) := by decide +kernel
theorem dX9_law_52 : decode cX9_law 52 = .ok (.aload_n 0, 1) := by decide +kernel
theorem dX9_law_53 : decode cX9_law 53 = .ok (.getfield 90, 3) := by decide +kernel
theorem dX9_law_56 : decode cX9_law 56 = .ok (.aload_n 0, 1) := by decide +kernel
theorem dX9_law_57 : decode cX9_law 57 = .ok (.getfield 223, 3) := by decide +kernel
theorem dX9_law_60 : decode cX9_law 60 = .ok (.iload_n 1, 1) := by decide +kernel
theorem dX9_law_61 : decode cX9_law 61 = .ok (.iastore, 1) := by decide +kernel
theorem dX9_law_62 : decode cX9_law 62 = .ok (.aload_n 0, 1) := by decide +kernel
theorem dX9_law_63 : decode cX9_law 63 = .ok (.dup, 1) := by decide +kernel
theorem dX9_law_64 : decode cX9_law 64 = .ok (.getfield 340, 3) := by decide +kernel
theorem dX9_law_67 : decode cX9_law 67 = .ok (.aload_n 0, 1) := by decide +kernel
theorem dX9_law_68 : decode cX9_law 68 = .ok (.getfield 193, 3) := by decide +kernel
theorem dX9_law_71 : decode cX9_law 71 = .ok (.ifCond .ne 7, 3) := by decide +kernel
theorem dX9_law_74 : decode cX9_law 74 = .ok (.iconst 1, 1) := by decide +kernel
theorem dX9_law_75 : decode cX9_law 75 = .ok (.goto 4, 3) := by decide +kernel
theorem dX9_law_78 : decode cX9_law 78 = .ok (.iconst 0, 1) := by decide +kernel
theorem dX9_law_79 : decode cX9_law 79 = .ok (.iadd, 1) := by decide +kernel
theorem dX9_law_80 : decode cX9_law 80 = .ok (.putfield 340, 3) := by decide +kernel
theorem dX9_law_83 : decode cX9_law 83 = .ok (.aload_n 0, 1) := by decide +kernel
theorem dX9_law_84 : decode cX9_law 84 = .ok (.getfield 193, 3) := by decide +kernel
theorem dX9_law_87 : decode cX9_law 87 = .ok (.ifCond .le 13, 3) := by decide +kernel
theorem dX9_law_90 : decode cX9_law 90 = .ok (.bipush (-2), 2) := by decide +kernel
theorem dX9_law_92 : decode cX9_law 92 = .ok (.aload_n 0, 1) := by decide +kernel
theorem dX9_law_93 : decode cX9_law 93 = .ok (.getfield 193, 3) := by decide +kernel
theorem dX9_law_96 : decode cX9_law 96 = .ok (.isub, 1) := by decide +kernel
theorem dX9_law_97 : decode cX9_law 97 = .ok (.goto 9, 3) := by decide +kernel
theorem dX9_law_100 : decode cX9_law 100 = .ok (.aload_n 0, 1) := by decide +kernel
theorem dX9_law_101 : decode cX9_law 101 = .ok (.getfield 340, 3) := by decide +kernel
theorem dX9_law_104 : decode cX9_law 104 = .ok (.iconst 1, 1) := by decide +kernel
theorem dX9_law_105 : decode cX9_law 105 = .ok (.isub, 1) := by decide +kernel
theorem dX9_law_106 : decode cX9_law 106 = .ok (.ireturn, 1) := by decide +kernel
theorem dX9_isLaw_0 : decode cX9_isLaw 0 = .ok (.iload_n 1, 1) := by decide +kernel
theorem dX9_isLaw_1 : decode cX9_isLaw 1 = .ok (.i2l, 1) := by decide +kernel
theorem dX9_isLaw_2 : decode cX9_isLaw 2 = .ok (.lconst 0, 1) := by decide +kernel
theorem dX9_isLaw_3 : decode cX9_isLaw 3 = .ok (.aload_n 0, 1) := by decide +kernel
theorem dX9_isLaw_4 : decode cX9_isLaw 4 = .ok (.getfield 340, 3) := by decide +kernel
theorem dX9_isLaw_7 : decode cX9_isLaw 7 = .ok (.iconst 1, 1) := by decide +kernel
theorem dX9_isLaw_8 : decode cX9_isLaw 8 = .ok (.isub, 1) := by decide +kernel
theorem dX9_isLaw_9 : decode cX9_isLaw 9 = .ok (.i2l, 1) := by decide +kernel
theorem dX9_isLaw_10 : decode cX9_isLaw 10 = .ok (.invokestatic 146, 3) := by decide +kernel
theorem dX9_isLaw_13 : decode cX9_isLaw 13 = .ok (.ireturn, 1) := by decide +kernel
theorem dX9_truth_0 : decode cX9_truth 0 = .ok (.iload_n 0, 1) := by decide +kernel
theorem dX9_truth_1 : decode cX9_truth 1 = .ok (.ifCond .eq 7, 3) := by decide +kernel
theorem dX9_truth_4 : decode cX9_truth 4 = .ok (.lconst 1, 1) := by decide +kernel
theorem dX9_truth_5 : decode cX9_truth 5 = .ok (.goto 4, 3) := by decide +kernel
theorem dX9_truth_8 : decode cX9_truth 8 = .ok (.lconst 0, 1) := by decide +kernel
theorem dX9_truth_9 : decode cX9_truth 9 = .ok (.lreturn, 1) := by decide +kernel
theorem dX9_both_0 : decode cX9_both 0 = .ok (.iload_n 0, 1) := by decide +kernel
theorem dX9_both_1 : decode cX9_both 1 = .ok (.tableswitch 190 2 15 #[71, 75, 111, 126, 141, 156, 171, 190, 186, 190, 190, 79, 83, 97], 71) := by decide +kernel
theorem dX9_both_72 : decode cX9_both 72 = .ok (.lload_n 1, 1) := by decide +kernel
theorem dX9_both_73 : decode cX9_both 73 = .ok (.lload_n 3, 1) := by decide +kernel
theorem dX9_both_74 : decode cX9_both 74 = .ok (.ladd, 1) := by decide +kernel
theorem dX9_both_75 : decode cX9_both 75 = .ok (.lreturn, 1) := by decide +kernel
theorem dX9_both_76 : decode cX9_both 76 = .ok (.lload_n 1, 1) := by decide +kernel
theorem dX9_both_77 : decode cX9_both 77 = .ok (.lload_n 3, 1) := by decide +kernel
theorem dX9_both_78 : decode cX9_both 78 = .ok (.lsub, 1) := by decide +kernel
theorem dX9_both_79 : decode cX9_both 79 = .ok (.lreturn, 1) := by decide +kernel
theorem dX9_both_80 : decode cX9_both 80 = .ok (.lload_n 1, 1) := by decide +kernel
theorem dX9_both_81 : decode cX9_both 81 = .ok (.lload_n 3, 1) := by decide +kernel
theorem dX9_both_82 : decode cX9_both 82 = .ok (.lmul, 1) := by decide +kernel
theorem dX9_both_83 : decode cX9_both 83 = .ok (.lreturn, 1) := by decide +kernel
theorem dX9_both_84 : decode cX9_both 84 = .ok (.lload_n 3, 1) := by decide +kernel
theorem dX9_both_85 : decode cX9_both 85 = .ok (.lconst 0, 1) := by decide +kernel
theorem dX9_both_86 : decode cX9_both 86 = .ok (.lcmp, 1) := by decide +kernel
theorem dX9_both_87 : decode cX9_both 87 = .ok (.ifCond .ne 7, 3) := by decide +kernel
theorem dX9_both_90 : decode cX9_both 90 = .ok (.lconst 0, 1) := by decide +kernel
theorem dX9_both_91 : decode cX9_both 91 = .ok (.goto 6, 3) := by decide +kernel
theorem dX9_both_94 : decode cX9_both 94 = .ok (.lload_n 1, 1) := by decide +kernel
theorem dX9_both_95 : decode cX9_both 95 = .ok (.lload_n 3, 1) := by decide +kernel
theorem dX9_both_96 : decode cX9_both 96 = .ok (.ldiv, 1) := by decide +kernel
theorem dX9_both_97 : decode cX9_both 97 = .ok (.lreturn, 1) := by decide +kernel
theorem dX9_both_98 : decode cX9_both 98 = .ok (.lload_n 3, 1) := by decide +kernel
theorem dX9_both_99 : decode cX9_both 99 = .ok (.lconst 0, 1) := by decide +kernel
theorem dX9_both_100 : decode cX9_both 100 = .ok (.lcmp, 1) := by decide +kernel
theorem dX9_both_101 : decode cX9_both 101 = .ok (.ifCond .ne 7, 3) := by decide +kernel
theorem dX9_both_104 : decode cX9_both 104 = .ok (.lconst 0, 1) := by decide +kernel
theorem dX9_both_105 : decode cX9_both 105 = .ok (.goto 6, 3) := by decide +kernel
theorem dX9_both_108 : decode cX9_both 108 = .ok (.lload_n 1, 1) := by decide +kernel
theorem dX9_both_109 : decode cX9_both 109 = .ok (.lload_n 3, 1) := by decide +kernel
theorem dX9_both_110 : decode cX9_both 110 = .ok (.lrem, 1) := by decide +kernel
theorem dX9_both_111 : decode cX9_both 111 = .ok (.lreturn, 1) := by decide +kernel
theorem dX9_both_112 : decode cX9_both 112 = .ok (.lload_n 1, 1) := by decide +kernel
theorem dX9_both_113 : decode cX9_both 113 = .ok (.lload_n 3, 1) := by decide +kernel
theorem dX9_both_114 : decode cX9_both 114 = .ok (.lcmp, 1) := by decide +kernel
theorem dX9_both_115 : decode cX9_both 115 = .ok (.ifCond .ge 7, 3) := by decide +kernel
theorem dX9_both_118 : decode cX9_both 118 = .ok (.iconst 1, 1) := by decide +kernel
theorem dX9_both_119 : decode cX9_both 119 = .ok (.goto 4, 3) := by decide +kernel
theorem dX9_both_122 : decode cX9_both 122 = .ok (.iconst 0, 1) := by decide +kernel
theorem dX9_both_123 : decode cX9_both 123 = .ok (.invokestatic 346, 3) := by decide +kernel
theorem dX9_both_126 : decode cX9_both 126 = .ok (.lreturn, 1) := by decide +kernel
theorem dX9_both_127 : decode cX9_both 127 = .ok (.lload_n 1, 1) := by decide +kernel
theorem dX9_both_128 : decode cX9_both 128 = .ok (.lload_n 3, 1) := by decide +kernel
theorem dX9_both_129 : decode cX9_both 129 = .ok (.lcmp, 1) := by decide +kernel
theorem dX9_both_130 : decode cX9_both 130 = .ok (.ifCond .gt 7, 3) := by decide +kernel
theorem dX9_both_133 : decode cX9_both 133 = .ok (.iconst 1, 1) := by decide +kernel
theorem dX9_both_134 : decode cX9_both 134 = .ok (.goto 4, 3) := by decide +kernel
theorem dX9_both_137 : decode cX9_both 137 = .ok (.iconst 0, 1) := by decide +kernel
theorem dX9_both_138 : decode cX9_both 138 = .ok (.invokestatic 346, 3) := by decide +kernel
theorem dX9_both_141 : decode cX9_both 141 = .ok (.lreturn, 1) := by decide +kernel
theorem dX9_both_142 : decode cX9_both 142 = .ok (.lload_n 1, 1) := by decide +kernel
theorem dX9_both_143 : decode cX9_both 143 = .ok (.lload_n 3, 1) := by decide +kernel
theorem dX9_both_144 : decode cX9_both 144 = .ok (.lcmp, 1) := by decide +kernel
theorem dX9_both_145 : decode cX9_both 145 = .ok (.ifCond .ne 7, 3) := by decide +kernel
theorem dX9_both_148 : decode cX9_both 148 = .ok (.iconst 1, 1) := by decide +kernel
theorem dX9_both_149 : decode cX9_both 149 = .ok (.goto 4, 3) := by decide +kernel
theorem dX9_both_152 : decode cX9_both 152 = .ok (.iconst 0, 1) := by decide +kernel
theorem dX9_both_153 : decode cX9_both 153 = .ok (.invokestatic 346, 3) := by decide +kernel
theorem dX9_both_156 : decode cX9_both 156 = .ok (.lreturn, 1) := by decide +kernel
theorem dX9_both_157 : decode cX9_both 157 = .ok (.lload_n 1, 1) := by decide +kernel
theorem dX9_both_158 : decode cX9_both 158 = .ok (.lload_n 3, 1) := by decide +kernel
theorem dX9_both_159 : decode cX9_both 159 = .ok (.lcmp, 1) := by decide +kernel
theorem dX9_both_160 : decode cX9_both 160 = .ok (.ifCond .lt 7, 3) := by decide +kernel
theorem dX9_both_163 : decode cX9_both 163 = .ok (.iconst 1, 1) := by decide +kernel
theorem dX9_both_164 : decode cX9_both 164 = .ok (.goto 4, 3) := by decide +kernel
theorem dX9_both_167 : decode cX9_both 167 = .ok (.iconst 0, 1) := by decide +kernel
theorem dX9_both_168 : decode cX9_both 168 = .ok (.invokestatic 346, 3) := by decide +kernel
theorem dX9_both_171 : decode cX9_both 171 = .ok (.lreturn, 1) := by decide +kernel
theorem dX9_both_172 : decode cX9_both 172 = .ok (.lload_n 1, 1) := by decide +kernel
theorem dX9_both_173 : decode cX9_both 173 = .ok (.lload_n 3, 1) := by decide +kernel
theorem dX9_both_174 : decode cX9_both 174 = .ok (.lcmp, 1) := by decide +kernel
theorem dX9_both_175 : decode cX9_both 175 = .ok (.ifCond .le 7, 3) := by decide +kernel
theorem dX9_both_178 : decode cX9_both 178 = .ok (.iconst 1, 1) := by decide +kernel
theorem dX9_both_179 : decode cX9_both 179 = .ok (.goto 4, 3) := by decide +kernel
theorem dX9_both_182 : decode cX9_both 182 = .ok (.iconst 0, 1) := by decide +kernel
theorem dX9_both_183 : decode cX9_both 183 = .ok (.invokestatic 346, 3) := by decide +kernel
theorem dX9_both_186 : decode cX9_both 186 = .ok (.lreturn, 1) := by decide +kernel
theorem dX9_both_187 : decode cX9_both 187 = .ok (.lload_n 1, 1) := by decide +kernel
theorem dX9_both_188 : decode cX9_both 188 = .ok (.lload_n 3, 1) := by decide +kernel
theorem dX9_both_189 : decode cX9_both 189 = .ok (.land, 1) := by decide +kernel
theorem dX9_both_190 : decode cX9_both 190 = .ok (.lreturn, 1) := by decide +kernel
theorem dX9_both_191 : decode cX9_both 191 = .ok (.lload_n 1, 1) := by decide +kernel
theorem dX9_both_192 : decode cX9_both 192 = .ok (.lload_n 3, 1) := by decide +kernel
theorem dX9_both_193 : decode cX9_both 193 = .ok (.lor, 1) := by decide +kernel
theorem dX9_both_194 : decode cX9_both 194 = .ok (.lreturn, 1) := by decide +kernel
theorem dX9_answer_0 : decode cX9_answer 0 = .ok (.iconst 0, 1) := by decide +kernel
theorem dX9_answer_1 : decode cX9_answer 1 = .ok (.istore 4, 2) := by decide +kernel
theorem dX9_answer_3 : decode cX9_answer 3 = .ok (.iload_n 2, 1) := by decide +kernel
theorem dX9_answer_4 : decode cX9_answer 4 = .ok (.istore 5, 2) := by decide +kernel
theorem dX9_answer_6 : decode cX9_answer 6 = .ok (.iload 5, 2) := by decide +kernel
theorem dX9_answer_8 : decode cX9_answer 8 = .ok (.iload_n 3, 1) := by decide +kernel
theorem dX9_answer_9 : decode cX9_answer 9 = .ok (.if_icmp .ge 144, 3) := by decide +kernel
theorem dX9_answer_12 : decode cX9_answer 12 = .ok (.aload_n 0, 1) := by decide +kernel
theorem dX9_answer_13 : decode cX9_answer 13 = .ok (.getfield 84, 3) := by decide +kernel
theorem dX9_answer_16 : decode cX9_answer 16 = .ok (.sipush 300, 3) := by decide +kernel
theorem dX9_answer_19 : decode cX9_answer 19 = .ok (.iload_n 1, 1) := by decide +kernel
theorem dX9_answer_20 : decode cX9_answer 20 = .ok (.imul, 1) := by decide +kernel
theorem dX9_answer_21 : decode cX9_answer 21 = .ok (.iload 5, 2) := by decide +kernel
theorem dX9_answer_23 : decode cX9_answer 23 = .ok (.iadd, 1) := by decide +kernel
theorem dX9_answer_24 : decode cX9_answer 24 = .ok (.iaload, 1) := by decide +kernel
theorem dX9_answer_25 : decode cX9_answer 25 = .ok (.istore 6, 2) := by decide +kernel
theorem dX9_answer_27 : decode cX9_answer 27 = .ok (.aload_n 0, 1) := by decide +kernel
theorem dX9_answer_28 : decode cX9_answer 28 = .ok (.getfield 87, 3) := by decide +kernel
theorem dX9_answer_31 : decode cX9_answer 31 = .ok (.sipush 300, 3) := by decide +kernel
theorem dX9_answer_34 : decode cX9_answer 34 = .ok (.iload_n 1, 1) := by decide +kernel
theorem dX9_answer_35 : decode cX9_answer 35 = .ok (.imul, 1) := by decide +kernel
theorem dX9_answer_36 : decode cX9_answer 36 = .ok (.iload 5, 2) := by decide +kernel
theorem dX9_answer_38 : decode cX9_answer 38 = .ok (.iadd, 1) := by decide +kernel
theorem dX9_answer_39 : decode cX9_answer 39 = .ok (.iaload, 1) := by decide +kernel
theorem dX9_answer_40 : decode cX9_answer 40 = .ok (.istore 7, 2) := by decide +kernel
theorem dX9_answer_42 : decode cX9_answer 42 = .ok (.iload 6, 2) := by decide +kernel
theorem dX9_answer_44 : decode cX9_answer 44 = .ok (.ifCond .eq 9, 3) := by decide +kernel
theorem dX9_answer_47 : decode cX9_answer 47 = .ok (.iload 6, 2) := by decide +kernel
theorem dX9_answer_49 : decode cX9_answer 49 = .ok (.iconst 1, 1) := by decide +kernel
theorem dX9_answer_50 : decode cX9_answer 50 = .ok (.if_icmp .ne 34, 3) := by decide +kernel
theorem dX9_answer_53 : decode cX9_answer 53 = .ok (.aload_n 0, 1) := by decide +kernel
theorem dX9_answer_54 : decode cX9_answer 54 = .ok (.getfield 109, 3) := by decide +kernel
theorem dX9_answer_57 : decode cX9_answer 57 = .ok (.iload 4, 2) := by decide +kernel
theorem dX9_answer_59 : decode cX9_answer 59 = .ok (.iload 6, 2) := by decide +kernel
theorem dX9_answer_61 : decode cX9_answer 61 = .ok (.ifCond .ne 9, 3) := by decide +kernel
theorem dX9_answer_64 : decode cX9_answer 64 = .ok (.iload 7, 2) := by decide +kernel
theorem dX9_answer_66 : decode cX9_answer 66 = .ok (.i2l, 1) := by decide +kernel
theorem dX9_answer_67 : decode cX9_answer 67 = .ok (.goto 10, 3) := by decide +kernel
theorem dX9_answer_70 : decode cX9_answer 70 = .ok (.aload_n 0, 1) := by decide +kernel
theorem dX9_answer_71 : decode cX9_answer 71 = .ok (.getfield 105, 3) := by decide +kernel
theorem dX9_answer_74 : decode cX9_answer 74 = .ok (.iload 7, 2) := by decide +kernel
theorem dX9_answer_76 : decode cX9_answer 76 = .ok (.laload, 1) := by decide +kernel
theorem dX9_answer_77 : decode cX9_answer 77 = .ok (.lastore, 1) := by decide +kernel
theorem dX9_answer_78 : decode cX9_answer 78 = .ok (.iinc 4 1, 3) := by decide +kernel
theorem dX9_answer_81 : decode cX9_answer 81 = .ok (.goto 66, 3) := by decide +kernel
theorem dX9_answer_84 : decode cX9_answer 84 = .ok (.iload 6, 2) := by decide +kernel
theorem dX9_answer_86 : decode cX9_answer 86 = .ok (.bipush 9, 2) := by decide +kernel
theorem dX9_answer_88 : decode cX9_answer 88 = .ok (.if_icmp .ne 26, 3) := by decide +kernel
theorem dX9_answer_91 : decode cX9_answer 91 = .ok (.aload_n 0, 1) := by decide +kernel
theorem dX9_answer_92 : decode cX9_answer 92 = .ok (.getfield 109, 3) := by decide +kernel
theorem dX9_answer_95 : decode cX9_answer 95 = .ok (.iload 4, 2) := by decide +kernel
theorem dX9_answer_97 : decode cX9_answer 97 = .ok (.iconst 1, 1) := by decide +kernel
theorem dX9_answer_98 : decode cX9_answer 98 = .ok (.isub, 1) := by decide +kernel
theorem dX9_answer_99 : decode cX9_answer 99 = .ok (.lconst 1, 1) := by decide +kernel
theorem dX9_answer_100 : decode cX9_answer 100 = .ok (.aload_n 0, 1) := by decide +kernel
theorem dX9_answer_101 : decode cX9_answer 101 = .ok (.getfield 109, 3) := by decide +kernel
theorem dX9_answer_104 : decode cX9_answer 104 = .ok (.iload 4, 2) := by decide +kernel
theorem dX9_answer_106 : decode cX9_answer 106 = .ok (.iconst 1, 1) := by decide +kernel
theorem dX9_answer_107 : decode cX9_answer 107 = .ok (.isub, 1) := by decide +kernel
theorem dX9_answer_108 : decode cX9_answer 108 = .ok (.laload, 1) := by decide +kernel
theorem dX9_answer_109 : decode cX9_answer 109 = .ok (.lsub, 1) := by decide +kernel
theorem dX9_answer_110 : decode cX9_answer 110 = .ok (.lastore, 1) := by decide +kernel
theorem dX9_answer_111 : decode cX9_answer 111 = .ok (.goto 36, 3) := by decide +kernel
theorem dX9_answer_114 : decode cX9_answer 114 = .ok (.iinc 4 (-1), 3) := by decide +kernel
theorem dX9_answer_117 : decode cX9_answer 117 = .ok (.aload_n 0, 1) := by decide +kernel
theorem dX9_answer_118 : decode cX9_answer 118 = .ok (.getfield 109, 3) := by decide +kernel
theorem dX9_answer_121 : decode cX9_answer 121 = .ok (.iload 4, 2) := by decide +kernel
theorem dX9_answer_123 : decode cX9_answer 123 = .ok (.iconst 1, 1) := by decide +kernel
theorem dX9_answer_124 : decode cX9_answer 124 = .ok (.isub, 1) := by decide +kernel
theorem dX9_answer_125 : decode cX9_answer 125 = .ok (.iload 6, 2) := by decide +kernel
theorem dX9_answer_127 : decode cX9_answer 127 = .ok (.aload_n 0, 1) := by decide +kernel
theorem dX9_answer_128 : decode cX9_answer 128 = .ok (.getfield 109, 3) := by decide +kernel
theorem dX9_answer_131 : decode cX9_answer 131 = .ok (.iload 4, 2) := by decide +kernel
theorem dX9_answer_133 : decode cX9_answer 133 = .ok (.iconst 1, 1) := by decide +kernel
theorem dX9_answer_134 : decode cX9_answer 134 = .ok (.isub, 1) := by decide +kernel
theorem dX9_answer_135 : decode cX9_answer 135 = .ok (.laload, 1) := by decide +kernel
theorem dX9_answer_136 : decode cX9_answer 136 = .ok (.aload_n 0, 1) := by decide +kernel
theorem dX9_answer_137 : decode cX9_answer 137 = .ok (.getfield 109, 3) := by decide +kernel
theorem dX9_answer_140 : decode cX9_answer 140 = .ok (.iload 4, 2) := by decide +kernel
theorem dX9_answer_142 : decode cX9_answer 142 = .ok (.laload, 1) := by decide +kernel
theorem dX9_answer_143 : decode cX9_answer 143 = .ok (.invokestatic 350, 3) := by decide +kernel
theorem dX9_answer_146 : decode cX9_answer 146 = .ok (.lastore, 1) := by decide +kernel
theorem dX9_answer_147 : decode cX9_answer 147 = .ok (.iinc 5 1, 3) := by decide +kernel
theorem dX9_answer_150 : decode cX9_answer 150 = .ok (.goto (-144), 3) := by decide +kernel
theorem dX9_answer_153 : decode cX9_answer 153 = .ok (.aload_n 0, 1) := by decide +kernel
theorem dX9_answer_154 : decode cX9_answer 154 = .ok (.getfield 109, 3) := by decide +kernel
theorem dX9_answer_157 : decode cX9_answer 157 = .ok (.iconst 0, 1) := by decide +kernel
theorem dX9_answer_158 : decode cX9_answer 158 = .ok (.laload, 1) := by decide +kernel
theorem dX9_answer_159 : decode cX9_answer 159 = .ok (.lreturn, 1) := by decide +kernel
theorem dX9_seat_0 : decode cX9_seat 0 = .ok (.aload_n 0, 1) := by decide +kernel
theorem dX9_seat_1 : decode cX9_seat 1 = .ok (.iload_n 1, 1) := by decide +kernel
theorem dX9_seat_2 : decode cX9_seat 2 = .ok (.iload_n 2, 1) := by decide +kernel
theorem dX9_seat_3 : decode cX9_seat 3 = .ok (.invokevirtual 150, 3) := by decide +kernel
theorem dX9_seat_6 : decode cX9_seat 6 = .ok (.ifCond .ne 5, 3) := by decide +kernel
theorem dX9_seat_9 : decode cX9_seat 9 = .ok (.iconst (-1), 1) := by decide +kernel
theorem dX9_seat_10 : decode cX9_seat 10 = .ok (.ireturn, 1) := by decide +kernel
theorem dX9_seat_11 : decode cX9_seat 11 = .ok (.bipush 10, 2) := by decide +kernel
theorem dX9_seat_13 : decode cX9_seat 13 = .ok (.iload_n 2, 1) := by decide +kernel
theorem dX9_seat_14 : decode cX9_seat 14 = .ok (.imul, 1) := by decide +kernel
theorem dX9_seat_15 : decode cX9_seat 15 = .ok (.iload_n 1, 1) := by decide +kernel
theorem dX9_seat_16 : decode cX9_seat 16 = .ok (.iadd, 1) := by decide +kernel
theorem dX9_seat_17 : decode cX9_seat 17 = .ok (.istore 4, 2) := by decide +kernel
theorem dX9_seat_19 : decode cX9_seat 19 = .ok (.iload_n 3, 1) := by decide +kernel
theorem dX9_seat_20 : decode cX9_seat 20 = .ok (.tableswitch 71 0 3 #[32, 40, 47, 64], 32) := by decide +kernel
theorem dX9_seat_52 : decode cX9_seat 52 = .ok (.aload_n 0, 1) := by decide +kernel
theorem dX9_seat_53 : decode cX9_seat 53 = .ok (.getfield 13, 3) := by decide +kernel
theorem dX9_seat_56 : decode cX9_seat 56 = .ok (.iload 4, 2) := by decide +kernel
theorem dX9_seat_58 : decode cX9_seat 58 = .ok (.iaload, 1) := by decide +kernel
theorem dX9_seat_59 : decode cX9_seat 59 = .ok (.ireturn, 1) := by decide +kernel
theorem dX9_seat_60 : decode cX9_seat 60 = .ok (.aload_n 0, 1) := by decide +kernel
theorem dX9_seat_61 : decode cX9_seat 61 = .ok (.iload 4, 2) := by decide +kernel
theorem dX9_seat_63 : decode cX9_seat 63 = .ok (.invokevirtual 354, 3) := by decide +kernel
theorem dX9_seat_66 : decode cX9_seat 66 = .ok (.ireturn, 1) := by decide +kernel
theorem dX9_seat_67 : decode cX9_seat 67 = .ok (.aload_n 0, 1) := by decide +kernel
theorem dX9_seat_68 : decode cX9_seat 68 = .ok (.getfield 7, 3) := by decide +kernel
theorem dX9_seat_71 : decode cX9_seat 71 = .ok (.iconst 5, 1) := by decide +kernel
theorem dX9_seat_72 : decode cX9_seat 72 = .ok (.iaload, 1) := by decide +kernel
theorem dX9_seat_73 : decode cX9_seat 73 = .ok (.iload 4, 2) := by decide +kernel
theorem dX9_seat_75 : decode cX9_seat 75 = .ok (.if_icmp .ne 7, 3) := by decide +kernel
theorem dX9_seat_78 : decode cX9_seat 78 = .ok (.iconst 1, 1) := by decide +kernel
theorem dX9_seat_79 : decode cX9_seat 79 = .ok (.goto 4, 3) := by decide +kernel
theorem dX9_seat_82 : decode cX9_seat 82 = .ok (.iconst 0, 1) := by decide +kernel
theorem dX9_seat_83 : decode cX9_seat 83 = .ok (.ireturn, 1) := by decide +kernel
theorem dX9_seat_84 : decode cX9_seat 84 = .ok (.aload_n 0, 1) := by decide +kernel
theorem dX9_seat_85 : decode cX9_seat 85 = .ok (.iload 4, 2) := by decide +kernel
theorem dX9_seat_87 : decode cX9_seat 87 = .ok (.invokevirtual 357, 3) := by decide +kernel
theorem dX9_seat_90 : decode cX9_seat 90 = .ok (.ireturn, 1) := by decide +kernel
theorem dX9_seat_91 : decode cX9_seat 91 = .ok (.iconst (-1), 1) := by decide +kernel
theorem dX9_seat_92 : decode cX9_seat 92 = .ok (.ireturn, 1) := by decide +kernel
theorem dX9_guest_0 : decode cX9_guest 0 = .ok (.aload_n 0, 1) := by decide +kernel
theorem dX9_guest_1 : decode cX9_guest 1 = .ok (.iload_n 1, 1) := by decide +kernel
theorem dX9_guest_2 : decode cX9_guest 2 = .ok (.invokevirtual 154, 3) := by decide +kernel
theorem dX9_guest_5 : decode cX9_guest 5 = .ok (.ifCond .ne 5, 3) := by decide +kernel
theorem dX9_guest_8 : decode cX9_guest 8 = .ok (.iconst (-1), 1) := by decide +kernel
theorem dX9_guest_9 : decode cX9_guest 9 = .ok (.ireturn, 1) := by decide +kernel
theorem dX9_guest_10 : decode cX9_guest 10 = .ok (.iload_n 2, 1) := by decide +kernel
theorem dX9_guest_11 : decode cX9_guest 11 = .ok (.tableswitch 102 0 4 #[33, 57, 81, 88, 95], 33) := by decide +kernel
theorem dX9_guest_44 : decode cX9_guest 44 = .ok (.aload_n 0, 1) := by decide +kernel
theorem dX9_guest_45 : decode cX9_guest 45 = .ok (.getfield 16, 3) := by decide +kernel
theorem dX9_guest_48 : decode cX9_guest 48 = .ok (.iload_n 1, 1) := by decide +kernel
theorem dX9_guest_49 : decode cX9_guest 49 = .ok (.iaload, 1) := by decide +kernel
theorem dX9_guest_50 : decode cX9_guest 50 = .ok (.iconst (-1), 1) := by decide +kernel
theorem dX9_guest_51 : decode cX9_guest 51 = .ok (.if_icmp .ne 7, 3) := by decide +kernel
theorem dX9_guest_54 : decode cX9_guest 54 = .ok (.iconst (-1), 1) := by decide +kernel
theorem dX9_guest_55 : decode cX9_guest 55 = .ok (.goto 12, 3) := by decide +kernel
theorem dX9_guest_58 : decode cX9_guest 58 = .ok (.aload_n 0, 1) := by decide +kernel
theorem dX9_guest_59 : decode cX9_guest 59 = .ok (.getfield 16, 3) := by decide +kernel
theorem dX9_guest_62 : decode cX9_guest 62 = .ok (.iload_n 1, 1) := by decide +kernel
theorem dX9_guest_63 : decode cX9_guest 63 = .ok (.iaload, 1) := by decide +kernel
theorem dX9_guest_64 : decode cX9_guest 64 = .ok (.bipush 10, 2) := by decide +kernel
theorem dX9_guest_66 : decode cX9_guest 66 = .ok (.irem, 1) := by decide +kernel
theorem dX9_guest_67 : decode cX9_guest 67 = .ok (.ireturn, 1) := by decide +kernel
theorem dX9_guest_68 : decode cX9_guest 68 = .ok (.aload_n 0, 1) := by decide +kernel
theorem dX9_guest_69 : decode cX9_guest 69 = .ok (.getfield 16, 3) := by decide +kernel
theorem dX9_guest_72 : decode cX9_guest 72 = .ok (.iload_n 1, 1) := by decide +kernel
theorem dX9_guest_73 : decode cX9_guest 73 = .ok (.iaload, 1) := by decide +kernel
theorem dX9_guest_74 : decode cX9_guest 74 = .ok (.iconst (-1), 1) := by decide +kernel
theorem dX9_guest_75 : decode cX9_guest 75 = .ok (.if_icmp .ne 7, 3) := by decide +kernel
theorem dX9_guest_78 : decode cX9_guest 78 = .ok (.iconst (-1), 1) := by decide +kernel
theorem dX9_guest_79 : decode cX9_guest 79 = .ok (.goto 12, 3) := by decide +kernel
theorem dX9_guest_82 : decode cX9_guest 82 = .ok (.aload_n 0, 1) := by decide +kernel
theorem dX9_guest_83 : decode cX9_guest 83 = .ok (.getfield 16, 3) := by decide +kernel
theorem dX9_guest_86 : decode cX9_guest 86 = .ok (.iload_n 1, 1) := by decide +kernel
theorem dX9_guest_87 : decode cX9_guest 87 = .ok (.iaload, 1) := by decide +kernel
theorem dX9_guest_88 : decode cX9_guest 88 = .ok (.bipush 10, 2) := by decide +kernel
theorem dX9_guest_90 : decode cX9_guest 90 = .ok (.idiv, 1) := by decide +kernel
theorem dX9_guest_91 : decode cX9_guest 91 = .ok (.ireturn, 1) := by decide +kernel
theorem dX9_guest_92 : decode cX9_guest 92 = .ok (.aload_n 0, 1) := by decide +kernel
theorem dX9_guest_93 : decode cX9_guest 93 = .ok (.getfield 19, 3) := by decide +kernel
theorem dX9_guest_96 : decode cX9_guest 96 = .ok (.iload_n 1, 1) := by decide +kernel
theorem dX9_guest_97 : decode cX9_guest 97 = .ok (.iaload, 1) := by decide +kernel
theorem dX9_guest_98 : decode cX9_guest 98 = .ok (.ireturn, 1) := by decide +kernel
theorem dX9_guest_99 : decode cX9_guest 99 = .ok (.aload_n 0, 1) := by decide +kernel
theorem dX9_guest_100 : decode cX9_guest 100 = .ok (.getfield 22, 3) := by decide +kernel
theorem dX9_guest_103 : decode cX9_guest 103 = .ok (.iload_n 1, 1) := by decide +kernel
theorem dX9_guest_104 : decode cX9_guest 104 = .ok (.iaload, 1) := by decide +kernel
theorem dX9_guest_105 : decode cX9_guest 105 = .ok (.ireturn, 1) := by decide +kernel
theorem dX9_guest_106 : decode cX9_guest 106 = .ok (.aload_n 0, 1) := by decide +kernel
theorem dX9_guest_107 : decode cX9_guest 107 = .ok (.getfield 25, 3) := by decide +kernel
theorem dX9_guest_110 : decode cX9_guest 110 = .ok (.iload_n 1, 1) := by decide +kernel
theorem dX9_guest_111 : decode cX9_guest 111 = .ok (.iaload, 1) := by decide +kernel
theorem dX9_guest_112 : decode cX9_guest 112 = .ok (.ireturn, 1) := by decide +kernel
theorem dX9_guest_113 : decode cX9_guest 113 = .ok (.iconst (-1), 1) := by decide +kernel
theorem dX9_guest_114 : decode cX9_guest 114 = .ok (.ireturn, 1) := by decide +kernel
theorem dX9_fan_0 : decode cX9_fan 0 = .ok (.iload_n 1, 1) := by decide +kernel
theorem dX9_fan_1 : decode cX9_fan 1 = .ok (.i2l, 1) := by decide +kernel
theorem dX9_fan_2 : decode cX9_fan 2 = .ok (.lconst 0, 1) := by decide +kernel
theorem dX9_fan_3 : decode cX9_fan 3 = .ok (.aload_n 0, 1) := by decide +kernel
theorem dX9_fan_4 : decode cX9_fan 4 = .ok (.getfield 7, 3) := by decide +kernel
theorem dX9_fan_7 : decode cX9_fan 7 = .ok (.iconst 3, 1) := by decide +kernel
theorem dX9_fan_8 : decode cX9_fan 8 = .ok (.iaload, 1) := by decide +kernel
theorem dX9_fan_9 : decode cX9_fan 9 = .ok (.iconst 1, 1) := by decide +kernel
theorem dX9_fan_10 : decode cX9_fan 10 = .ok (.isub, 1) := by decide +kernel
theorem dX9_fan_11 : decode cX9_fan 11 = .ok (.i2l, 1) := by decide +kernel
theorem dX9_fan_12 : decode cX9_fan 12 = .ok (.invokestatic 146, 3) := by decide +kernel
theorem dX9_fan_15 : decode cX9_fan 15 = .ok (.ifCond .ne 5, 3) := by decide +kernel
theorem dX9_fan_18 : decode cX9_fan 18 = .ok (.iconst (-1), 1) := by decide +kernel
theorem dX9_fan_19 : decode cX9_fan 19 = .ok (.ireturn, 1) := by decide +kernel
theorem dX9_fan_20 : decode cX9_fan 20 = .ok (.iload_n 2, 1) := by decide +kernel
theorem dX9_fan_21 : decode cX9_fan 21 = .ok (.tableswitch 65 0 3 #[31, 41, 51, 58], 31) := by decide +kernel
theorem dX9_fan_52 : decode cX9_fan 52 = .ok (.aload_n 0, 1) := by decide +kernel
theorem dX9_fan_53 : decode cX9_fan 53 = .ok (.getfield 28, 3) := by decide +kernel
theorem dX9_fan_56 : decode cX9_fan 56 = .ok (.iload_n 1, 1) := by decide +kernel
theorem dX9_fan_57 : decode cX9_fan 57 = .ok (.iaload, 1) := by decide +kernel
theorem dX9_fan_58 : decode cX9_fan 58 = .ok (.bipush 10, 2) := by decide +kernel
theorem dX9_fan_60 : decode cX9_fan 60 = .ok (.irem, 1) := by decide +kernel
theorem dX9_fan_61 : decode cX9_fan 61 = .ok (.ireturn, 1) := by decide +kernel
theorem dX9_fan_62 : decode cX9_fan 62 = .ok (.aload_n 0, 1) := by decide +kernel
theorem dX9_fan_63 : decode cX9_fan 63 = .ok (.getfield 28, 3) := by decide +kernel
theorem dX9_fan_66 : decode cX9_fan 66 = .ok (.iload_n 1, 1) := by decide +kernel
theorem dX9_fan_67 : decode cX9_fan 67 = .ok (.iaload, 1) := by decide +kernel
theorem dX9_fan_68 : decode cX9_fan 68 = .ok (.bipush 10, 2) := by decide +kernel
theorem dX9_fan_70 : decode cX9_fan 70 = .ok (.idiv, 1) := by decide +kernel
theorem dX9_fan_71 : decode cX9_fan 71 = .ok (.ireturn, 1) := by decide +kernel
theorem dX9_fan_72 : decode cX9_fan 72 = .ok (.aload_n 0, 1) := by decide +kernel
theorem dX9_fan_73 : decode cX9_fan 73 = .ok (.getfield 31, 3) := by decide +kernel
theorem dX9_fan_76 : decode cX9_fan 76 = .ok (.iload_n 1, 1) := by decide +kernel
theorem dX9_fan_77 : decode cX9_fan 77 = .ok (.iaload, 1) := by decide +kernel
theorem dX9_fan_78 : decode cX9_fan 78 = .ok (.ireturn, 1) := by decide +kernel
theorem dX9_fan_79 : decode cX9_fan 79 = .ok (.aload_n 0, 1) := by decide +kernel
theorem dX9_fan_80 : decode cX9_fan 80 = .ok (.getfield 34, 3) := by decide +kernel
theorem dX9_fan_83 : decode cX9_fan 83 = .ok (.iload_n 1, 1) := by decide +kernel
theorem dX9_fan_84 : decode cX9_fan 84 = .ok (.iaload, 1) := by decide +kernel
theorem dX9_fan_85 : decode cX9_fan 85 = .ok (.ireturn, 1) := by decide +kernel
theorem dX9_fan_86 : decode cX9_fan 86 = .ok (.iconst (-1), 1) := by decide +kernel
theorem dX9_fan_87 : decode cX9_fan 87 = .ok (.ireturn, 1) := by decide +kernel
theorem dX9_sits_0 : decode cX9_sits 0 = .ok (.aload_n 0, 1) := by decide +kernel
theorem dX9_sits_1 : decode cX9_sits 1 = .ok (.iload_n 1, 1) := by decide +kernel
theorem dX9_sits_2 : decode cX9_sits 2 = .ok (.invokevirtual 154, 3) := by decide +kernel
theorem dX9_sits_5 : decode cX9_sits 5 = .ok (.ifCond .eq 30, 3) := by decide +kernel
theorem dX9_sits_8 : decode cX9_sits 8 = .ok (.aload_n 0, 1) := by decide +kernel
theorem dX9_sits_9 : decode cX9_sits 9 = .ok (.iload_n 2, 1) := by decide +kernel
theorem dX9_sits_10 : decode cX9_sits 10 = .ok (.iload_n 3, 1) := by decide +kernel
theorem dX9_sits_11 : decode cX9_sits 11 = .ok (.invokevirtual 150, 3) := by decide +kernel
theorem dX9_sits_14 : decode cX9_sits 14 = .ok (.ifCond .eq 21, 3) := by decide +kernel
theorem dX9_sits_17 : decode cX9_sits 17 = .ok (.aload_n 0, 1) := by decide +kernel
theorem dX9_sits_18 : decode cX9_sits 18 = .ok (.bipush 10, 2) := by decide +kernel
theorem dX9_sits_20 : decode cX9_sits 20 = .ok (.iload_n 3, 1) := by decide +kernel
theorem dX9_sits_21 : decode cX9_sits 21 = .ok (.imul, 1) := by decide +kernel
theorem dX9_sits_22 : decode cX9_sits 22 = .ok (.iload_n 2, 1) := by decide +kernel
theorem dX9_sits_23 : decode cX9_sits 23 = .ok (.iadd, 1) := by decide +kernel
theorem dX9_sits_24 : decode cX9_sits 24 = .ok (.invokevirtual 354, 3) := by decide +kernel
theorem dX9_sits_27 : decode cX9_sits 27 = .ok (.iconst (-1), 1) := by decide +kernel
theorem dX9_sits_28 : decode cX9_sits 28 = .ok (.if_icmp .ne 7, 3) := by decide +kernel
theorem dX9_sits_31 : decode cX9_sits 31 = .ok (.iconst 1, 1) := by decide +kernel
theorem dX9_sits_32 : decode cX9_sits 32 = .ok (.goto 4, 3) := by decide +kernel
theorem dX9_sits_35 : decode cX9_sits 35 = .ok (.iconst 0, 1) := by decide +kernel
theorem dX9_sits_36 : decode cX9_sits 36 = .ok (.istore 4, 2) := by decide +kernel
theorem dX9_sits_38 : decode cX9_sits 38 = .ok (.iload 4, 2) := by decide +kernel
theorem dX9_sits_40 : decode cX9_sits 40 = .ok (.ifCond .eq 15, 3) := by decide +kernel
theorem dX9_sits_43 : decode cX9_sits 43 = .ok (.aload_n 0, 1) := by decide +kernel
theorem dX9_sits_44 : decode cX9_sits 44 = .ok (.getfield 16, 3) := by decide +kernel
theorem dX9_sits_47 : decode cX9_sits 47 = .ok (.iload_n 1, 1) := by decide +kernel
theorem dX9_sits_48 : decode cX9_sits 48 = .ok (.bipush 10, 2) := by decide +kernel
theorem dX9_sits_50 : decode cX9_sits 50 = .ok (.iload_n 3, 1) := by decide +kernel
theorem dX9_sits_51 : decode cX9_sits 51 = .ok (.imul, 1) := by decide +kernel
theorem dX9_sits_52 : decode cX9_sits 52 = .ok (.iload_n 2, 1) := by decide +kernel
theorem dX9_sits_53 : decode cX9_sits 53 = .ok (.iadd, 1) := by decide +kernel
theorem dX9_sits_54 : decode cX9_sits 54 = .ok (.iastore, 1) := by decide +kernel
theorem dX9_sits_55 : decode cX9_sits 55 = .ok (.iload 4, 2) := by decide +kernel
theorem dX9_sits_57 : decode cX9_sits 57 = .ok (.ireturn, 1) := by decide +kernel
theorem dX9_goes_0 : decode cX9_goes 0 = .ok (.aload_n 0, 1) := by decide +kernel
theorem dX9_goes_1 : decode cX9_goes 1 = .ok (.iload_n 1, 1) := by decide +kernel
theorem dX9_goes_2 : decode cX9_goes 2 = .ok (.invokevirtual 359, 3) := by decide +kernel
theorem dX9_goes_5 : decode cX9_goes 5 = .ok (.istore_n 2, 1) := by decide +kernel
theorem dX9_goes_6 : decode cX9_goes 6 = .ok (.iload_n 2, 1) := by decide +kernel
theorem dX9_goes_7 : decode cX9_goes 7 = .ok (.ifCond .eq 10, 3) := by decide +kernel
theorem dX9_goes_10 : decode cX9_goes 10 = .ok (.aload_n 0, 1) := by decide +kernel
theorem dX9_goes_11 : decode cX9_goes 11 = .ok (.getfield 16, 3) := by decide +kernel
theorem dX9_goes_14 : decode cX9_goes 14 = .ok (.iload_n 1, 1) := by decide +kernel
theorem dX9_goes_15 : decode cX9_goes 15 = .ok (.iconst (-1), 1) := by decide +kernel
theorem dX9_goes_16 : decode cX9_goes 16 = .ok (.iastore, 1) := by decide +kernel
theorem dX9_goes_17 : decode cX9_goes 17 = .ok (.iload_n 2, 1) := by decide +kernel
theorem dX9_goes_18 : decode cX9_goes 18 = .ok (.ireturn, 1) := by decide +kernel
theorem dX9_changes_0 : decode cX9_changes 0 = .ok (.aload_n 0, 1) := by decide +kernel
theorem dX9_changes_1 : decode cX9_changes 1 = .ok (.getfield 16, 3) := by decide +kernel
theorem dX9_changes_4 : decode cX9_changes 4 = .ok (.iload_n 1, 1) := by decide +kernel
theorem dX9_changes_5 : decode cX9_changes 5 = .ok (.iaload, 1) := by decide +kernel
theorem dX9_changes_6 : decode cX9_changes 6 = .ok (.istore_n 3, 1) := by decide +kernel
theorem dX9_changes_7 : decode cX9_changes 7 = .ok (.aload_n 0, 1) := by decide +kernel
theorem dX9_changes_8 : decode cX9_changes 8 = .ok (.getfield 16, 3) := by decide +kernel
theorem dX9_changes_11 : decode cX9_changes 11 = .ok (.iload_n 1, 1) := by decide +kernel
theorem dX9_changes_12 : decode cX9_changes 12 = .ok (.aload_n 0, 1) := by decide +kernel
theorem dX9_changes_13 : decode cX9_changes 13 = .ok (.getfield 16, 3) := by decide +kernel
theorem dX9_changes_16 : decode cX9_changes 16 = .ok (.iload_n 2, 1) := by decide +kernel
theorem dX9_changes_17 : decode cX9_changes 17 = .ok (.iaload, 1) := by decide +kernel
theorem dX9_changes_18 : decode cX9_changes 18 = .ok (.iastore, 1) := by decide +kernel
theorem dX9_changes_19 : decode cX9_changes 19 = .ok (.aload_n 0, 1) := by decide +kernel
theorem dX9_changes_20 : decode cX9_changes 20 = .ok (.getfield 16, 3) := by decide +kernel
theorem dX9_changes_23 : decode cX9_changes 23 = .ok (.iload_n 2, 1) := by decide +kernel
theorem dX9_changes_24 : decode cX9_changes 24 = .ok (.iload_n 3, 1) := by decide +kernel
theorem dX9_changes_25 : decode cX9_changes 25 = .ok (.iastore, 1) := by decide +kernel
theorem dX9_changes_26 : decode cX9_changes 26 = .ok (.return_, 1) := by decide +kernel
theorem dX9_change_0 : decode cX9_change 0 = .ok (.aload_n 0, 1) := by decide +kernel
theorem dX9_change_1 : decode cX9_change 1 = .ok (.iload_n 1, 1) := by decide +kernel
theorem dX9_change_2 : decode cX9_change 2 = .ok (.invokevirtual 359, 3) := by decide +kernel
theorem dX9_change_5 : decode cX9_change 5 = .ok (.ifCond .eq 20, 3) := by decide +kernel
theorem dX9_change_8 : decode cX9_change 8 = .ok (.aload_n 0, 1) := by decide +kernel
theorem dX9_change_9 : decode cX9_change 9 = .ok (.iload_n 2, 1) := by decide +kernel
theorem dX9_change_10 : decode cX9_change 10 = .ok (.invokevirtual 359, 3) := by decide +kernel
theorem dX9_change_13 : decode cX9_change 13 = .ok (.ifCond .eq 12, 3) := by decide +kernel
theorem dX9_change_16 : decode cX9_change 16 = .ok (.iload_n 1, 1) := by decide +kernel
theorem dX9_change_17 : decode cX9_change 17 = .ok (.iload_n 2, 1) := by decide +kernel
theorem dX9_change_18 : decode cX9_change 18 = .ok (.if_icmp .eq 7, 3) := by decide +kernel
theorem dX9_change_21 : decode cX9_change 21 = .ok (.iconst 1, 1) := by decide +kernel
theorem dX9_change_22 : decode cX9_change 22 = .ok (.goto 4, 3) := by decide +kernel
theorem dX9_change_25 : decode cX9_change 25 = .ok (.iconst 0, 1) := by decide +kernel
theorem dX9_change_26 : decode cX9_change 26 = .ok (.istore_n 3, 1) := by decide +kernel
theorem dX9_change_27 : decode cX9_change 27 = .ok (.iload_n 3, 1) := by decide +kernel
theorem dX9_change_28 : decode cX9_change 28 = .ok (.ifCond .eq 9, 3) := by decide +kernel
theorem dX9_change_31 : decode cX9_change 31 = .ok (.aload_n 0, 1) := by decide +kernel
theorem dX9_change_32 : decode cX9_change 32 = .ok (.iload_n 1, 1) := by decide +kernel
theorem dX9_change_33 : decode cX9_change 33 = .ok (.iload_n 2, 1) := by decide +kernel
theorem dX9_change_34 : decode cX9_change 34 = .ok (.invokevirtual 362, 3) := by decide +kernel
theorem dX9_change_37 : decode cX9_change 37 = .ok (.iload_n 3, 1) := by decide +kernel
theorem dX9_change_38 : decode cX9_change 38 = .ok (.ireturn, 1) := by decide +kernel
theorem dX9_warms_0 : decode cX9_warms 0 = .ok (.aload_n 0, 1) := by decide +kernel
theorem dX9_warms_1 : decode cX9_warms 1 = .ok (.iload_n 1, 1) := by decide +kernel
theorem dX9_warms_2 : decode cX9_warms 2 = .ok (.invokevirtual 154, 3) := by decide +kernel
theorem dX9_warms_5 : decode cX9_warms 5 = .ok (.ifCond .eq 15, 3) := by decide +kernel
theorem dX9_warms_8 : decode cX9_warms 8 = .ok (.iload_n 2, 1) := by decide +kernel
theorem dX9_warms_9 : decode cX9_warms 9 = .ok (.i2l, 1) := by decide +kernel
theorem dX9_warms_10 : decode cX9_warms 10 = .ok (.lconst 0, 1) := by decide +kernel
theorem dX9_warms_11 : decode cX9_warms 11 = .ok (.ldc2_w 365, 3) := by decide +kernel
theorem dX9_warms_14 : decode cX9_warms 14 = .ok (.invokestatic 146, 3) := by decide +kernel
theorem dX9_warms_17 : decode cX9_warms 17 = .ok (.ifCond .ne 5, 3) := by decide +kernel
theorem dX9_warms_20 : decode cX9_warms 20 = .ok (.iconst (-1), 1) := by decide +kernel
theorem dX9_warms_21 : decode cX9_warms 21 = .ok (.ireturn, 1) := by decide +kernel
theorem dX9_warms_22 : decode cX9_warms 22 = .ok (.aload_n 0, 1) := by decide +kernel
theorem dX9_warms_23 : decode cX9_warms 23 = .ok (.getfield 19, 3) := by decide +kernel
theorem dX9_warms_26 : decode cX9_warms 26 = .ok (.iload_n 1, 1) := by decide +kernel
theorem dX9_warms_27 : decode cX9_warms 27 = .ok (.iaload, 1) := by decide +kernel
theorem dX9_warms_28 : decode cX9_warms 28 = .ok (.istore_n 3, 1) := by decide +kernel
theorem dX9_warms_29 : decode cX9_warms 29 = .ok (.aload_n 0, 1) := by decide +kernel
theorem dX9_warms_30 : decode cX9_warms 30 = .ok (.getfield 19, 3) := by decide +kernel
theorem dX9_warms_33 : decode cX9_warms 33 = .ok (.iload_n 1, 1) := by decide +kernel
theorem dX9_warms_34 : decode cX9_warms 34 = .ok (.iload_n 2, 1) := by decide +kernel
theorem dX9_warms_35 : decode cX9_warms 35 = .ok (.iastore, 1) := by decide +kernel
theorem dX9_warms_36 : decode cX9_warms 36 = .ok (.iload_n 3, 1) := by decide +kernel
theorem dX9_warms_37 : decode cX9_warms 37 = .ok (.ireturn, 1) := by decide +kernel
theorem dX9_guestsGive_0 : decode cX9_guestsGive 0 = .ok (.iconst 0, 1) := by decide +kernel
theorem dX9_guestsGive_1 : decode cX9_guestsGive 1 = .ok (.istore_n 1, 1) := by decide +kernel
theorem dX9_guestsGive_2 : decode cX9_guestsGive 2 = .ok (.iload_n 1, 1) := by decide +kernel
theorem dX9_guestsGive_3 : decode cX9_guestsGive 3 = .ok (.aload_n 0, 1) := by decide +kernel
theorem dX9_guestsGive_4 : decode cX9_guestsGive 4 = .ok (.getfield 7, 3) := by decide +kernel
theorem dX9_guestsGive_7 : decode cX9_guestsGive 7 = .ok (.iconst 2, 1) := by decide +kernel
theorem dX9_guestsGive_8 : decode cX9_guestsGive 8 = .ok (.iaload, 1) := by decide +kernel
theorem dX9_guestsGive_9 : decode cX9_guestsGive 9 = .ok (.if_icmp .ge 55, 3) := by decide +kernel
theorem dX9_guestsGive_12 : decode cX9_guestsGive 12 = .ok (.aload_n 0, 1) := by decide +kernel
theorem dX9_guestsGive_13 : decode cX9_guestsGive 13 = .ok (.getfield 16, 3) := by decide +kernel
theorem dX9_guestsGive_16 : decode cX9_guestsGive 16 = .ok (.iload_n 1, 1) := by decide +kernel
theorem dX9_guestsGive_17 : decode cX9_guestsGive 17 = .ok (.iaload, 1) := by decide +kernel
theorem dX9_guestsGive_18 : decode cX9_guestsGive 18 = .ok (.iconst (-1), 1) := by decide +kernel
theorem dX9_guestsGive_19 : decode cX9_guestsGive 19 = .ok (.if_icmp .eq 39, 3) := by decide +kernel
theorem dX9_guestsGive_22 : decode cX9_guestsGive 22 = .ok (.aload_n 0, 1) := by decide +kernel
theorem dX9_guestsGive_23 : decode cX9_guestsGive 23 = .ok (.getfield 13, 3) := by decide +kernel
theorem dX9_guestsGive_26 : decode cX9_guestsGive 26 = .ok (.aload_n 0, 1) := by decide +kernel
theorem dX9_guestsGive_27 : decode cX9_guestsGive 27 = .ok (.getfield 16, 3) := by decide +kernel
theorem dX9_guestsGive_30 : decode cX9_guestsGive 30 = .ok (.iload_n 1, 1) := by decide +kernel
theorem dX9_guestsGive_31 : decode cX9_guestsGive 31 = .ok (.iaload, 1) := by decide +kernel
theorem dX9_guestsGive_32 : decode cX9_guestsGive 32 = .ok (.dup2, 1) := by decide +kernel
theorem dX9_guestsGive_33 : decode cX9_guestsGive 33 = .ok (.iaload, 1) := by decide +kernel
theorem dX9_guestsGive_34 : decode cX9_guestsGive 34 = .ok (.aload_n 0, 1) := by decide +kernel
theorem dX9_guestsGive_35 : decode cX9_guestsGive 35 = .ok (.getfield 19, 3) := by decide +kernel
theorem dX9_guestsGive_38 : decode cX9_guestsGive 38 = .ok (.iload_n 1, 1) := by decide +kernel
theorem dX9_guestsGive_39 : decode cX9_guestsGive 39 = .ok (.iaload, 1) := by decide +kernel
theorem dX9_guestsGive_40 : decode cX9_guestsGive 40 = .ok (.iadd, 1) := by decide +kernel
theorem dX9_guestsGive_41 : decode cX9_guestsGive 41 = .ok (.iastore, 1) := by decide +kernel
theorem dX9_guestsGive_42 : decode cX9_guestsGive 42 = .ok (.aload_n 0, 1) := by decide +kernel
theorem dX9_guestsGive_43 : decode cX9_guestsGive 43 = .ok (.getfield 7, 3) := by decide +kernel
theorem dX9_guestsGive_46 : decode cX9_guestsGive 46 = .ok (.bipush 10, 2) := by decide +kernel
theorem dX9_guestsGive_48 : decode cX9_guestsGive 48 = .ok (.dup2, 1) := by decide +kernel
theorem dX9_guestsGive_49 : decode cX9_guestsGive 49 = .ok (.iaload, 1) := by decide +kernel
theorem dX9_guestsGive_50 : decode cX9_guestsGive 50 = .ok (.aload_n 0, 1) := by decide +kernel
theorem dX9_guestsGive_51 : decode cX9_guestsGive 51 = .ok (.getfield 19, 3) := by decide +kernel
theorem dX9_guestsGive_54 : decode cX9_guestsGive 54 = .ok (.iload_n 1, 1) := by decide +kernel
theorem dX9_guestsGive_55 : decode cX9_guestsGive 55 = .ok (.iaload, 1) := by decide +kernel
theorem dX9_guestsGive_56 : decode cX9_guestsGive 56 = .ok (.iadd, 1) := by decide +kernel
theorem dX9_guestsGive_57 : decode cX9_guestsGive 57 = .ok (.iastore, 1) := by decide +kernel
theorem dX9_guestsGive_58 : decode cX9_guestsGive 58 = .ok (.iinc 1 1, 3) := by decide +kernel
theorem dX9_guestsGive_61 : decode cX9_guestsGive 61 = .ok (.goto (-59), 3) := by decide +kernel
theorem dX9_guestsGive_64 : decode cX9_guestsGive 64 = .ok (.return_, 1) := by decide +kernel
theorem dX9_fansBlow_0 : decode cX9_fansBlow 0 = .ok (.iconst 0, 1) := by decide +kernel
theorem dX9_fansBlow_1 : decode cX9_fansBlow 1 = .ok (.istore_n 1, 1) := by decide +kernel
theorem dX9_fansBlow_2 : decode cX9_fansBlow 2 = .ok (.iload_n 1, 1) := by decide +kernel
theorem dX9_fansBlow_3 : decode cX9_fansBlow 3 = .ok (.aload_n 0, 1) := by decide +kernel
theorem dX9_fansBlow_4 : decode cX9_fansBlow 4 = .ok (.getfield 7, 3) := by decide +kernel
theorem dX9_fansBlow_7 : decode cX9_fansBlow 7 = .ok (.iconst 3, 1) := by decide +kernel
theorem dX9_fansBlow_8 : decode cX9_fansBlow 8 = .ok (.iaload, 1) := by decide +kernel
theorem dX9_fansBlow_9 : decode cX9_fansBlow 9 = .ok (.if_icmp .ge 111, 3) := by decide +kernel
theorem dX9_fansBlow_12 : decode cX9_fansBlow 12 = .ok (.aload_n 0, 1) := by decide +kernel
theorem dX9_fansBlow_13 : decode cX9_fansBlow 13 = .ok (.getfield 34, 3) := by decide +kernel
theorem dX9_fansBlow_16 : decode cX9_fansBlow 16 = .ok (.iload_n 1, 1) := by decide +kernel
theorem dX9_fansBlow_17 : decode cX9_fansBlow 17 = .ok (.iaload, 1) := by decide +kernel
theorem dX9_fansBlow_18 : decode cX9_fansBlow 18 = .ok (.aload_n 0, 1) := by decide +kernel
theorem dX9_fansBlow_19 : decode cX9_fansBlow 19 = .ok (.getfield 13, 3) := by decide +kernel
theorem dX9_fansBlow_22 : decode cX9_fansBlow 22 = .ok (.aload_n 0, 1) := by decide +kernel
theorem dX9_fansBlow_23 : decode cX9_fansBlow 23 = .ok (.getfield 28, 3) := by decide +kernel
theorem dX9_fansBlow_26 : decode cX9_fansBlow 26 = .ok (.iload_n 1, 1) := by decide +kernel
theorem dX9_fansBlow_27 : decode cX9_fansBlow 27 = .ok (.iaload, 1) := by decide +kernel
theorem dX9_fansBlow_28 : decode cX9_fansBlow 28 = .ok (.iaload, 1) := by decide +kernel
theorem dX9_fansBlow_29 : decode cX9_fansBlow 29 = .ok (.if_icmp .ge 12, 3) := by decide +kernel
theorem dX9_fansBlow_32 : decode cX9_fansBlow 32 = .ok (.aload_n 0, 1) := by decide +kernel
theorem dX9_fansBlow_33 : decode cX9_fansBlow 33 = .ok (.getfield 34, 3) := by decide +kernel
theorem dX9_fansBlow_36 : decode cX9_fansBlow 36 = .ok (.iload_n 1, 1) := by decide +kernel
theorem dX9_fansBlow_37 : decode cX9_fansBlow 37 = .ok (.iaload, 1) := by decide +kernel
theorem dX9_fansBlow_38 : decode cX9_fansBlow 38 = .ok (.goto 14, 3) := by decide +kernel
theorem dX9_fansBlow_41 : decode cX9_fansBlow 41 = .ok (.aload_n 0, 1) := by decide +kernel
theorem dX9_fansBlow_42 : decode cX9_fansBlow 42 = .ok (.getfield 13, 3) := by decide +kernel
theorem dX9_fansBlow_45 : decode cX9_fansBlow 45 = .ok (.aload_n 0, 1) := by decide +kernel
theorem dX9_fansBlow_46 : decode cX9_fansBlow 46 = .ok (.getfield 28, 3) := by decide +kernel
theorem dX9_fansBlow_49 : decode cX9_fansBlow 49 = .ok (.iload_n 1, 1) := by decide +kernel
theorem dX9_fansBlow_50 : decode cX9_fansBlow 50 = .ok (.iaload, 1) := by decide +kernel
theorem dX9_fansBlow_51 : decode cX9_fansBlow 51 = .ok (.iaload, 1) := by decide +kernel
theorem dX9_fansBlow_52 : decode cX9_fansBlow 52 = .ok (.istore_n 2, 1) := by decide +kernel
theorem dX9_fansBlow_53 : decode cX9_fansBlow 53 = .ok (.aload_n 0, 1) := by decide +kernel
theorem dX9_fansBlow_54 : decode cX9_fansBlow 54 = .ok (.aload_n 0, 1) := by decide +kernel
theorem dX9_fansBlow_55 : decode cX9_fansBlow 55 = .ok (.getfield 28, 3) := by decide +kernel
theorem dX9_fansBlow_58 : decode cX9_fansBlow 58 = .ok (.iload_n 1, 1) := by decide +kernel
theorem dX9_fansBlow_59 : decode cX9_fansBlow 59 = .ok (.iaload, 1) := by decide +kernel
theorem dX9_fansBlow_60 : decode cX9_fansBlow 60 = .ok (.aload_n 0, 1) := by decide +kernel
theorem dX9_fansBlow_61 : decode cX9_fansBlow 61 = .ok (.getfield 31, 3) := by decide +kernel
theorem dX9_fansBlow_64 : decode cX9_fansBlow 64 = .ok (.iload_n 1, 1) := by decide +kernel
theorem dX9_fansBlow_65 : decode cX9_fansBlow 65 = .ok (.iaload, 1) := by decide +kernel
theorem dX9_fansBlow_66 : decode cX9_fansBlow 66 = .ok (.invokevirtual 367, 3) := by decide +kernel
theorem dX9_fansBlow_69 : decode cX9_fansBlow 69 = .ok (.istore_n 3, 1) := by decide +kernel
theorem dX9_fansBlow_70 : decode cX9_fansBlow 70 = .ok (.aload_n 0, 1) := by decide +kernel
theorem dX9_fansBlow_71 : decode cX9_fansBlow 71 = .ok (.getfield 13, 3) := by decide +kernel
theorem dX9_fansBlow_74 : decode cX9_fansBlow 74 = .ok (.aload_n 0, 1) := by decide +kernel
theorem dX9_fansBlow_75 : decode cX9_fansBlow 75 = .ok (.getfield 28, 3) := by decide +kernel
theorem dX9_fansBlow_78 : decode cX9_fansBlow 78 = .ok (.iload_n 1, 1) := by decide +kernel
theorem dX9_fansBlow_79 : decode cX9_fansBlow 79 = .ok (.iaload, 1) := by decide +kernel
theorem dX9_fansBlow_80 : decode cX9_fansBlow 80 = .ok (.dup2, 1) := by decide +kernel
theorem dX9_fansBlow_81 : decode cX9_fansBlow 81 = .ok (.iaload, 1) := by decide +kernel
theorem dX9_fansBlow_82 : decode cX9_fansBlow 82 = .ok (.iload_n 2, 1) := by decide +kernel
theorem dX9_fansBlow_83 : decode cX9_fansBlow 83 = .ok (.isub, 1) := by decide +kernel
theorem dX9_fansBlow_84 : decode cX9_fansBlow 84 = .ok (.iastore, 1) := by decide +kernel
theorem dX9_fansBlow_85 : decode cX9_fansBlow 85 = .ok (.iload_n 3, 1) := by decide +kernel
theorem dX9_fansBlow_86 : decode cX9_fansBlow 86 = .ok (.iconst (-1), 1) := by decide +kernel
theorem dX9_fansBlow_87 : decode cX9_fansBlow 87 = .ok (.if_icmp .ne 17, 3) := by decide +kernel
theorem dX9_fansBlow_90 : decode cX9_fansBlow 90 = .ok (.aload_n 0, 1) := by decide +kernel
theorem dX9_fansBlow_91 : decode cX9_fansBlow 91 = .ok (.getfield 7, 3) := by decide +kernel
theorem dX9_fansBlow_94 : decode cX9_fansBlow 94 = .ok (.bipush 8, 2) := by decide +kernel
theorem dX9_fansBlow_96 : decode cX9_fansBlow 96 = .ok (.dup2, 1) := by decide +kernel
theorem dX9_fansBlow_97 : decode cX9_fansBlow 97 = .ok (.iaload, 1) := by decide +kernel
theorem dX9_fansBlow_98 : decode cX9_fansBlow 98 = .ok (.iload_n 2, 1) := by decide +kernel
theorem dX9_fansBlow_99 : decode cX9_fansBlow 99 = .ok (.iadd, 1) := by decide +kernel
theorem dX9_fansBlow_100 : decode cX9_fansBlow 100 = .ok (.iastore, 1) := by decide +kernel
theorem dX9_fansBlow_101 : decode cX9_fansBlow 101 = .ok (.goto 13, 3) := by decide +kernel
theorem dX9_fansBlow_104 : decode cX9_fansBlow 104 = .ok (.aload_n 0, 1) := by decide +kernel
theorem dX9_fansBlow_105 : decode cX9_fansBlow 105 = .ok (.getfield 13, 3) := by decide +kernel
theorem dX9_fansBlow_108 : decode cX9_fansBlow 108 = .ok (.iload_n 3, 1) := by decide +kernel
theorem dX9_fansBlow_109 : decode cX9_fansBlow 109 = .ok (.dup2, 1) := by decide +kernel
theorem dX9_fansBlow_110 : decode cX9_fansBlow 110 = .ok (.iaload, 1) := by decide +kernel
theorem dX9_fansBlow_111 : decode cX9_fansBlow 111 = .ok (.iload_n 2, 1) := by decide +kernel
theorem dX9_fansBlow_112 : decode cX9_fansBlow 112 = .ok (.iadd, 1) := by decide +kernel
theorem dX9_fansBlow_113 : decode cX9_fansBlow 113 = .ok (.iastore, 1) := by decide +kernel
theorem dX9_fansBlow_114 : decode cX9_fansBlow 114 = .ok (.iinc 1 1, 3) := by decide +kernel
theorem dX9_fansBlow_117 : decode cX9_fansBlow 117 = .ok (.goto (-115), 3) := by decide +kernel
theorem dX9_fansBlow_120 : decode cX9_fansBlow 120 = .ok (.return_, 1) := by decide +kernel
theorem dX9_snowMelts_0 : decode cX9_snowMelts 0 = .ok (.iconst 0, 1) := by decide +kernel
theorem dX9_snowMelts_1 : decode cX9_snowMelts 1 = .ok (.istore_n 1, 1) := by decide +kernel
theorem dX9_snowMelts_2 : decode cX9_snowMelts 2 = .ok (.iload_n 1, 1) := by decide +kernel
theorem dX9_snowMelts_3 : decode cX9_snowMelts 3 = .ok (.aload_n 0, 1) := by decide +kernel
theorem dX9_snowMelts_4 : decode cX9_snowMelts 4 = .ok (.getfield 7, 3) := by decide +kernel
theorem dX9_snowMelts_7 : decode cX9_snowMelts 7 = .ok (.iconst 4, 1) := by decide +kernel
theorem dX9_snowMelts_8 : decode cX9_snowMelts 8 = .ok (.iaload, 1) := by decide +kernel
theorem dX9_snowMelts_9 : decode cX9_snowMelts 9 = .ok (.if_icmp .ge 76, 3) := by decide +kernel
theorem dX9_snowMelts_12 : decode cX9_snowMelts 12 = .ok (.aload_n 0, 1) := by decide +kernel
theorem dX9_snowMelts_13 : decode cX9_snowMelts 13 = .ok (.getfield 40, 3) := by decide +kernel
theorem dX9_snowMelts_16 : decode cX9_snowMelts 16 = .ok (.iload_n 1, 1) := by decide +kernel
theorem dX9_snowMelts_17 : decode cX9_snowMelts 17 = .ok (.iaload, 1) := by decide +kernel
theorem dX9_snowMelts_18 : decode cX9_snowMelts 18 = .ok (.aload_n 0, 1) := by decide +kernel
theorem dX9_snowMelts_19 : decode cX9_snowMelts 19 = .ok (.getfield 13, 3) := by decide +kernel
theorem dX9_snowMelts_22 : decode cX9_snowMelts 22 = .ok (.aload_n 0, 1) := by decide +kernel
theorem dX9_snowMelts_23 : decode cX9_snowMelts 23 = .ok (.getfield 37, 3) := by decide +kernel
theorem dX9_snowMelts_26 : decode cX9_snowMelts 26 = .ok (.iload_n 1, 1) := by decide +kernel
theorem dX9_snowMelts_27 : decode cX9_snowMelts 27 = .ok (.iaload, 1) := by decide +kernel
theorem dX9_snowMelts_28 : decode cX9_snowMelts 28 = .ok (.iaload, 1) := by decide +kernel
theorem dX9_snowMelts_29 : decode cX9_snowMelts 29 = .ok (.if_icmp .ge 12, 3) := by decide +kernel
theorem dX9_snowMelts_32 : decode cX9_snowMelts 32 = .ok (.aload_n 0, 1) := by decide +kernel
theorem dX9_snowMelts_33 : decode cX9_snowMelts 33 = .ok (.getfield 40, 3) := by decide +kernel
theorem dX9_snowMelts_36 : decode cX9_snowMelts 36 = .ok (.iload_n 1, 1) := by decide +kernel
theorem dX9_snowMelts_37 : decode cX9_snowMelts 37 = .ok (.iaload, 1) := by decide +kernel
theorem dX9_snowMelts_38 : decode cX9_snowMelts 38 = .ok (.goto 14, 3) := by decide +kernel
theorem dX9_snowMelts_41 : decode cX9_snowMelts 41 = .ok (.aload_n 0, 1) := by decide +kernel
theorem dX9_snowMelts_42 : decode cX9_snowMelts 42 = .ok (.getfield 13, 3) := by decide +kernel
theorem dX9_snowMelts_45 : decode cX9_snowMelts 45 = .ok (.aload_n 0, 1) := by decide +kernel
theorem dX9_snowMelts_46 : decode cX9_snowMelts 46 = .ok (.getfield 37, 3) := by decide +kernel
theorem dX9_snowMelts_49 : decode cX9_snowMelts 49 = .ok (.iload_n 1, 1) := by decide +kernel
theorem dX9_snowMelts_50 : decode cX9_snowMelts 50 = .ok (.iaload, 1) := by decide +kernel
theorem dX9_snowMelts_51 : decode cX9_snowMelts 51 = .ok (.iaload, 1) := by decide +kernel
theorem dX9_snowMelts_52 : decode cX9_snowMelts 52 = .ok (.istore_n 2, 1) := by decide +kernel
theorem dX9_snowMelts_53 : decode cX9_snowMelts 53 = .ok (.aload_n 0, 1) := by decide +kernel
theorem dX9_snowMelts_54 : decode cX9_snowMelts 54 = .ok (.getfield 13, 3) := by decide +kernel
theorem dX9_snowMelts_57 : decode cX9_snowMelts 57 = .ok (.aload_n 0, 1) := by decide +kernel
theorem dX9_snowMelts_58 : decode cX9_snowMelts 58 = .ok (.getfield 37, 3) := by decide +kernel
theorem dX9_snowMelts_61 : decode cX9_snowMelts 61 = .ok (.iload_n 1, 1) := by decide +kernel
theorem dX9_snowMelts_62 : decode cX9_snowMelts 62 = .ok (.iaload, 1) := by decide +kernel
theorem dX9_snowMelts_63 : decode cX9_snowMelts 63 = .ok (.dup2, 1) := by decide +kernel
theorem dX9_snowMelts_64 : decode cX9_snowMelts 64 = .ok (.iaload, 1) := by decide +kernel
theorem dX9_snowMelts_65 : decode cX9_snowMelts 65 = .ok (.iload_n 2, 1) := by decide +kernel
theorem dX9_snowMelts_66 : decode cX9_snowMelts 66 = .ok (.isub, 1) := by decide +kernel
theorem dX9_snowMelts_67 : decode cX9_snowMelts 67 = .ok (.iastore, 1) := by decide +kernel
theorem dX9_snowMelts_68 : decode cX9_snowMelts 68 = .ok (.aload_n 0, 1) := by decide +kernel
theorem dX9_snowMelts_69 : decode cX9_snowMelts 69 = .ok (.getfield 7, 3) := by decide +kernel
theorem dX9_snowMelts_72 : decode cX9_snowMelts 72 = .ok (.bipush 9, 2) := by decide +kernel
theorem dX9_snowMelts_74 : decode cX9_snowMelts 74 = .ok (.dup2, 1) := by decide +kernel
theorem dX9_snowMelts_75 : decode cX9_snowMelts 75 = .ok (.iaload, 1) := by decide +kernel
theorem dX9_snowMelts_76 : decode cX9_snowMelts 76 = .ok (.iload_n 2, 1) := by decide +kernel
theorem dX9_snowMelts_77 : decode cX9_snowMelts 77 = .ok (.iadd, 1) := by decide +kernel
theorem dX9_snowMelts_78 : decode cX9_snowMelts 78 = .ok (.iastore, 1) := by decide +kernel
theorem dX9_snowMelts_79 : decode cX9_snowMelts 79 = .ok (.iinc 1 1, 3) := by decide +kernel
theorem dX9_snowMelts_82 : decode cX9_snowMelts 82 = .ok (.goto (-80), 3) := by decide +kernel
theorem dX9_snowMelts_85 : decode cX9_snowMelts 85 = .ok (.return_, 1) := by decide +kernel
theorem dX9_heatSpreads_0 : decode cX9_heatSpreads 0 = .ok (.aload_n 0, 1) := by decide +kernel
theorem dX9_heatSpreads_1 : decode cX9_heatSpreads 1 = .ok (.getfield 13, 3) := by decide +kernel
theorem dX9_heatSpreads_4 : decode cX9_heatSpreads 4 = .ok (.aload_n 0, 1) := by decide +kernel
theorem dX9_heatSpreads_5 : decode cX9_heatSpreads 5 = .ok (.getfield 112, 3) := by decide +kernel
theorem dX9_heatSpreads_8 : decode cX9_heatSpreads 8 = .ok (.invokestatic 323, 3) := by decide +kernel
theorem dX9_heatSpreads_11 : decode cX9_heatSpreads 11 = .ok (.iconst 0, 1) := by decide +kernel
theorem dX9_heatSpreads_12 : decode cX9_heatSpreads 12 = .ok (.istore_n 1, 1) := by decide +kernel
theorem dX9_heatSpreads_13 : decode cX9_heatSpreads 13 = .ok (.iload_n 1, 1) := by decide +kernel
theorem dX9_heatSpreads_14 : decode cX9_heatSpreads 14 = .ok (.bipush 80, 2) := by decide +kernel
theorem dX9_heatSpreads_16 : decode cX9_heatSpreads 16 = .ok (.if_icmp .ge 78, 3) := by decide +kernel
theorem dX9_heatSpreads_19 : decode cX9_heatSpreads 19 = .ok (.iconst 1, 1) := by decide +kernel
theorem dX9_heatSpreads_20 : decode cX9_heatSpreads 20 = .ok (.istore_n 2, 1) := by decide +kernel
theorem dX9_heatSpreads_21 : decode cX9_heatSpreads 21 = .ok (.iload_n 2, 1) := by decide +kernel
theorem dX9_heatSpreads_22 : decode cX9_heatSpreads 22 = .ok (.iconst 5, 1) := by decide +kernel
theorem dX9_heatSpreads_23 : decode cX9_heatSpreads 23 = .ok (.if_icmp .ge 65, 3) := by decide +kernel
theorem dX9_heatSpreads_26 : decode cX9_heatSpreads 26 = .ok (.aload_n 0, 1) := by decide +kernel
theorem dX9_heatSpreads_27 : decode cX9_heatSpreads 27 = .ok (.iload_n 1, 1) := by decide +kernel
theorem dX9_heatSpreads_28 : decode cX9_heatSpreads 28 = .ok (.invokevirtual 370, 3) := by decide +kernel
theorem dX9_heatSpreads_31 : decode cX9_heatSpreads 31 = .ok (.ifCond .eq 57, 3) := by decide +kernel
theorem dX9_heatSpreads_34 : decode cX9_heatSpreads 34 = .ok (.aload_n 0, 1) := by decide +kernel
theorem dX9_heatSpreads_35 : decode cX9_heatSpreads 35 = .ok (.iload_n 1, 1) := by decide +kernel
theorem dX9_heatSpreads_36 : decode cX9_heatSpreads 36 = .ok (.iload_n 2, 1) := by decide +kernel
theorem dX9_heatSpreads_37 : decode cX9_heatSpreads 37 = .ok (.invokevirtual 367, 3) := by decide +kernel
theorem dX9_heatSpreads_40 : decode cX9_heatSpreads 40 = .ok (.istore_n 3, 1) := by decide +kernel
theorem dX9_heatSpreads_41 : decode cX9_heatSpreads 41 = .ok (.iload_n 3, 1) := by decide +kernel
theorem dX9_heatSpreads_42 : decode cX9_heatSpreads 42 = .ok (.iconst (-1), 1) := by decide +kernel
theorem dX9_heatSpreads_43 : decode cX9_heatSpreads 43 = .ok (.if_icmp .eq 39, 3) := by decide +kernel
theorem dX9_heatSpreads_46 : decode cX9_heatSpreads 46 = .ok (.aload_n 0, 1) := by decide +kernel
theorem dX9_heatSpreads_47 : decode cX9_heatSpreads 47 = .ok (.getfield 13, 3) := by decide +kernel
theorem dX9_heatSpreads_50 : decode cX9_heatSpreads 50 = .ok (.iload_n 1, 1) := by decide +kernel
theorem dX9_heatSpreads_51 : decode cX9_heatSpreads 51 = .ok (.dup2, 1) := by decide +kernel
theorem dX9_heatSpreads_52 : decode cX9_heatSpreads 52 = .ok (.iaload, 1) := by decide +kernel
theorem dX9_heatSpreads_53 : decode cX9_heatSpreads 53 = .ok (.aload_n 0, 1) := by decide +kernel
theorem dX9_heatSpreads_54 : decode cX9_heatSpreads 54 = .ok (.getfield 112, 3) := by decide +kernel
theorem dX9_heatSpreads_57 : decode cX9_heatSpreads 57 = .ok (.iload_n 1, 1) := by decide +kernel
theorem dX9_heatSpreads_58 : decode cX9_heatSpreads 58 = .ok (.iaload, 1) := by decide +kernel
theorem dX9_heatSpreads_59 : decode cX9_heatSpreads 59 = .ok (.bipush 8, 2) := by decide +kernel
theorem dX9_heatSpreads_61 : decode cX9_heatSpreads 61 = .ok (.idiv, 1) := by decide +kernel
theorem dX9_heatSpreads_62 : decode cX9_heatSpreads 62 = .ok (.isub, 1) := by decide +kernel
theorem dX9_heatSpreads_63 : decode cX9_heatSpreads 63 = .ok (.iastore, 1) := by decide +kernel
theorem dX9_heatSpreads_64 : decode cX9_heatSpreads 64 = .ok (.aload_n 0, 1) := by decide +kernel
theorem dX9_heatSpreads_65 : decode cX9_heatSpreads 65 = .ok (.getfield 13, 3) := by decide +kernel
theorem dX9_heatSpreads_68 : decode cX9_heatSpreads 68 = .ok (.iload_n 3, 1) := by decide +kernel
theorem dX9_heatSpreads_69 : decode cX9_heatSpreads 69 = .ok (.dup2, 1) := by decide +kernel
theorem dX9_heatSpreads_70 : decode cX9_heatSpreads 70 = .ok (.iaload, 1) := by decide +kernel
theorem dX9_heatSpreads_71 : decode cX9_heatSpreads 71 = .ok (.aload_n 0, 1) := by decide +kernel
theorem dX9_heatSpreads_72 : decode cX9_heatSpreads 72 = .ok (.getfield 112, 3) := by decide +kernel
theorem dX9_heatSpreads_75 : decode cX9_heatSpreads 75 = .ok (.iload_n 1, 1) := by decide +kernel
theorem dX9_heatSpreads_76 : decode cX9_heatSpreads 76 = .ok (.iaload, 1) := by decide +kernel
theorem dX9_heatSpreads_77 : decode cX9_heatSpreads 77 = .ok (.bipush 8, 2) := by decide +kernel
theorem dX9_heatSpreads_79 : decode cX9_heatSpreads 79 = .ok (.idiv, 1) := by decide +kernel
theorem dX9_heatSpreads_80 : decode cX9_heatSpreads 80 = .ok (.iadd, 1) := by decide +kernel
theorem dX9_heatSpreads_81 : decode cX9_heatSpreads 81 = .ok (.iastore, 1) := by decide +kernel
theorem dX9_heatSpreads_82 : decode cX9_heatSpreads 82 = .ok (.iinc 2 1, 3) := by decide +kernel
theorem dX9_heatSpreads_85 : decode cX9_heatSpreads 85 = .ok (.goto (-64), 3) := by decide +kernel
theorem dX9_heatSpreads_88 : decode cX9_heatSpreads 88 = .ok (.iinc 1 1, 3) := by decide +kernel
theorem dX9_heatSpreads_91 : decode cX9_heatSpreads 91 = .ok (.goto (-78), 3) := by decide +kernel
theorem dX9_heatSpreads_94 : decode cX9_heatSpreads 94 = .ok (.return_, 1) := by decide +kernel
theorem dX9_near_0 : decode cX9_near 0 = .ok (.iconst 0, 1) := by decide +kernel
theorem dX9_near_1 : decode cX9_near 1 = .ok (.istore_n 2, 1) := by decide +kernel
theorem dX9_near_2 : decode cX9_near 2 = .ok (.iconst 1, 1) := by decide +kernel
theorem dX9_near_3 : decode cX9_near 3 = .ok (.istore_n 3, 1) := by decide +kernel
theorem dX9_near_4 : decode cX9_near 4 = .ok (.iload_n 3, 1) := by decide +kernel
theorem dX9_near_5 : decode cX9_near 5 = .ok (.iconst 5, 1) := by decide +kernel
theorem dX9_near_6 : decode cX9_near 6 = .ok (.if_icmp .ge 37, 3) := by decide +kernel
theorem dX9_near_9 : decode cX9_near 9 = .ok (.aload_n 0, 1) := by decide +kernel
theorem dX9_near_10 : decode cX9_near 10 = .ok (.iload_n 1, 1) := by decide +kernel
theorem dX9_near_11 : decode cX9_near 11 = .ok (.iload_n 3, 1) := by decide +kernel
theorem dX9_near_12 : decode cX9_near 12 = .ok (.invokevirtual 367, 3) := by decide +kernel
theorem dX9_near_15 : decode cX9_near 15 = .ok (.istore 4, 2) := by decide +kernel
theorem dX9_near_17 : decode cX9_near 17 = .ok (.iload_n 2, 1) := by decide +kernel
theorem dX9_near_18 : decode cX9_near 18 = .ok (.iload 4, 2) := by decide +kernel
theorem dX9_near_20 : decode cX9_near 20 = .ok (.iconst (-1), 1) := by decide +kernel
theorem dX9_near_21 : decode cX9_near 21 = .ok (.if_icmp .ne 7, 3) := by decide +kernel
theorem dX9_near_24 : decode cX9_near 24 = .ok (.iconst 0, 1) := by decide +kernel
theorem dX9_near_25 : decode cX9_near 25 = .ok (.goto 10, 3) := by decide +kernel
theorem dX9_near_28 : decode cX9_near 28 = .ok (.aload_n 0, 1) := by decide +kernel
theorem dX9_near_29 : decode cX9_near 29 = .ok (.getfield 13, 3) := by decide +kernel
theorem dX9_near_32 : decode cX9_near 32 = .ok (.iload 4, 2) := by decide +kernel
theorem dX9_near_34 : decode cX9_near 34 = .ok (.iaload, 1) := by decide +kernel
theorem dX9_near_35 : decode cX9_near 35 = .ok (.iadd, 1) := by decide +kernel
theorem dX9_near_36 : decode cX9_near 36 = .ok (.istore_n 2, 1) := by decide +kernel
theorem dX9_near_37 : decode cX9_near 37 = .ok (.iinc 3 1, 3) := by decide +kernel
theorem dX9_near_40 : decode cX9_near 40 = .ok (.goto (-36), 3) := by decide +kernel
theorem dX9_near_43 : decode cX9_near 43 = .ok (.iload_n 2, 1) := by decide +kernel
theorem dX9_near_44 : decode cX9_near 44 = .ok (.ireturn, 1) := by decide +kernel
theorem dX9_sumOf_0 : decode cX9_sumOf 0 = .ok (.aload_n 0, 1) := by decide +kernel
theorem dX9_sumOf_1 : decode cX9_sumOf 1 = .ok (.getfield 105, 3) := by decide +kernel
theorem dX9_sumOf_4 : decode cX9_sumOf 4 = .ok (.iconst 0, 1) := by decide +kernel
theorem dX9_sumOf_5 : decode cX9_sumOf 5 = .ok (.aload_n 0, 1) := by decide +kernel
theorem dX9_sumOf_6 : decode cX9_sumOf 6 = .ok (.getfield 13, 3) := by decide +kernel
theorem dX9_sumOf_9 : decode cX9_sumOf 9 = .ok (.iload_n 2, 1) := by decide +kernel
theorem dX9_sumOf_10 : decode cX9_sumOf 10 = .ok (.iaload, 1) := by decide +kernel
theorem dX9_sumOf_11 : decode cX9_sumOf 11 = .ok (.i2l, 1) := by decide +kernel
theorem dX9_sumOf_12 : decode cX9_sumOf 12 = .ok (.lastore, 1) := by decide +kernel
theorem dX9_sumOf_13 : decode cX9_sumOf 13 = .ok (.aload_n 0, 1) := by decide +kernel
theorem dX9_sumOf_14 : decode cX9_sumOf 14 = .ok (.getfield 105, 3) := by decide +kernel
theorem dX9_sumOf_17 : decode cX9_sumOf 17 = .ok (.iconst 1, 1) := by decide +kernel
theorem dX9_sumOf_18 : decode cX9_sumOf 18 = .ok (.aload_n 0, 1) := by decide +kernel
theorem dX9_sumOf_19 : decode cX9_sumOf 19 = .ok (.iload_n 2, 1) := by decide +kernel
theorem dX9_sumOf_20 : decode cX9_sumOf 20 = .ok (.invokevirtual 373, 3) := by decide +kernel
theorem dX9_sumOf_23 : decode cX9_sumOf 23 = .ok (.i2l, 1) := by decide +kernel
theorem dX9_sumOf_24 : decode cX9_sumOf 24 = .ok (.lastore, 1) := by decide +kernel
theorem dX9_sumOf_25 : decode cX9_sumOf 25 = .ok (.aload_n 0, 1) := by decide +kernel
theorem dX9_sumOf_26 : decode cX9_sumOf 26 = .ok (.getfield 105, 3) := by decide +kernel
theorem dX9_sumOf_29 : decode cX9_sumOf 29 = .ok (.iconst 2, 1) := by decide +kernel
theorem dX9_sumOf_30 : decode cX9_sumOf 30 = .ok (.aload_n 0, 1) := by decide +kernel
theorem dX9_sumOf_31 : decode cX9_sumOf 31 = .ok (.iload_n 2, 1) := by decide +kernel
theorem dX9_sumOf_32 : decode cX9_sumOf 32 = .ok (.invokevirtual 354, 3) := by decide +kernel
theorem dX9_sumOf_35 : decode cX9_sumOf 35 = .ok (.iconst (-1), 1) := by decide +kernel
theorem dX9_sumOf_36 : decode cX9_sumOf 36 = .ok (.if_icmp .ne 7, 3) := by decide +kernel
theorem dX9_sumOf_39 : decode cX9_sumOf 39 = .ok (.lconst 0, 1) := by decide +kernel
theorem dX9_sumOf_40 : decode cX9_sumOf 40 = .ok (.goto 4, 3) := by decide +kernel
theorem dX9_sumOf_43 : decode cX9_sumOf 43 = .ok (.lconst 1, 1) := by decide +kernel
theorem dX9_sumOf_44 : decode cX9_sumOf 44 = .ok (.lastore, 1) := by decide +kernel
theorem dX9_sumOf_45 : decode cX9_sumOf 45 = .ok (.aload_n 0, 1) := by decide +kernel
theorem dX9_sumOf_46 : decode cX9_sumOf 46 = .ok (.getfield 105, 3) := by decide +kernel
theorem dX9_sumOf_49 : decode cX9_sumOf 49 = .ok (.iconst 3, 1) := by decide +kernel
theorem dX9_sumOf_50 : decode cX9_sumOf 50 = .ok (.iload_n 2, 1) := by decide +kernel
theorem dX9_sumOf_51 : decode cX9_sumOf 51 = .ok (.bipush 10, 2) := by decide +kernel
theorem dX9_sumOf_53 : decode cX9_sumOf 53 = .ok (.irem, 1) := by decide +kernel
theorem dX9_sumOf_54 : decode cX9_sumOf 54 = .ok (.i2l, 1) := by decide +kernel
theorem dX9_sumOf_55 : decode cX9_sumOf 55 = .ok (.lastore, 1) := by decide +kernel
theorem dX9_sumOf_56 : decode cX9_sumOf 56 = .ok (.aload_n 0, 1) := by decide +kernel
theorem dX9_sumOf_57 : decode cX9_sumOf 57 = .ok (.getfield 105, 3) := by decide +kernel
theorem dX9_sumOf_60 : decode cX9_sumOf 60 = .ok (.iconst 4, 1) := by decide +kernel
theorem dX9_sumOf_61 : decode cX9_sumOf 61 = .ok (.iload_n 2, 1) := by decide +kernel
theorem dX9_sumOf_62 : decode cX9_sumOf 62 = .ok (.bipush 10, 2) := by decide +kernel
theorem dX9_sumOf_64 : decode cX9_sumOf 64 = .ok (.idiv, 1) := by decide +kernel
theorem dX9_sumOf_65 : decode cX9_sumOf 65 = .ok (.i2l, 1) := by decide +kernel
theorem dX9_sumOf_66 : decode cX9_sumOf 66 = .ok (.lastore, 1) := by decide +kernel
theorem dX9_sumOf_67 : decode cX9_sumOf 67 = .ok (.aload_n 0, 1) := by decide +kernel
theorem dX9_sumOf_68 : decode cX9_sumOf 68 = .ok (.getfield 105, 3) := by decide +kernel
theorem dX9_sumOf_71 : decode cX9_sumOf 71 = .ok (.iconst 5, 1) := by decide +kernel
theorem dX9_sumOf_72 : decode cX9_sumOf 72 = .ok (.aload_n 0, 1) := by decide +kernel
theorem dX9_sumOf_73 : decode cX9_sumOf 73 = .ok (.getfield 7, 3) := by decide +kernel
theorem dX9_sumOf_76 : decode cX9_sumOf 76 = .ok (.bipush 7, 2) := by decide +kernel
theorem dX9_sumOf_78 : decode cX9_sumOf 78 = .ok (.iaload, 1) := by decide +kernel
theorem dX9_sumOf_79 : decode cX9_sumOf 79 = .ok (.i2l, 1) := by decide +kernel
theorem dX9_sumOf_80 : decode cX9_sumOf 80 = .ok (.lastore, 1) := by decide +kernel
theorem dX9_sumOf_81 : decode cX9_sumOf 81 = .ok (.aload_n 0, 1) := by decide +kernel
theorem dX9_sumOf_82 : decode cX9_sumOf 82 = .ok (.getfield 105, 3) := by decide +kernel
theorem dX9_sumOf_85 : decode cX9_sumOf 85 = .ok (.bipush 6, 2) := by decide +kernel
theorem dX9_sumOf_87 : decode cX9_sumOf 87 = .ok (.iload_n 3, 1) := by decide +kernel
theorem dX9_sumOf_88 : decode cX9_sumOf 88 = .ok (.i2l, 1) := by decide +kernel
theorem dX9_sumOf_89 : decode cX9_sumOf 89 = .ok (.lastore, 1) := by decide +kernel
theorem dX9_sumOf_90 : decode cX9_sumOf 90 = .ok (.aload_n 0, 1) := by decide +kernel
theorem dX9_sumOf_91 : decode cX9_sumOf 91 = .ok (.getfield 105, 3) := by decide +kernel
theorem dX9_sumOf_94 : decode cX9_sumOf 94 = .ok (.bipush 7, 2) := by decide +kernel
theorem dX9_sumOf_96 : decode cX9_sumOf 96 = .ok (.aload_n 0, 1) := by decide +kernel
theorem dX9_sumOf_97 : decode cX9_sumOf 97 = .ok (.getfield 7, 3) := by decide +kernel
theorem dX9_sumOf_100 : decode cX9_sumOf 100 = .ok (.bipush 6, 2) := by decide +kernel
theorem dX9_sumOf_102 : decode cX9_sumOf 102 = .ok (.iaload, 1) := by decide +kernel
theorem dX9_sumOf_103 : decode cX9_sumOf 103 = .ok (.iload_n 2, 1) := by decide +kernel
theorem dX9_sumOf_104 : decode cX9_sumOf 104 = .ok (.if_icmp .ne 7, 3) := by decide +kernel
theorem dX9_sumOf_107 : decode cX9_sumOf 107 = .ok (.lconst 1, 1) := by decide +kernel
theorem dX9_sumOf_108 : decode cX9_sumOf 108 = .ok (.goto 4, 3) := by decide +kernel
theorem dX9_sumOf_111 : decode cX9_sumOf 111 = .ok (.lconst 0, 1) := by decide +kernel
theorem dX9_sumOf_112 : decode cX9_sumOf 112 = .ok (.lastore, 1) := by decide +kernel
theorem dX9_sumOf_113 : decode cX9_sumOf 113 = .ok (.aload_n 0, 1) := by decide +kernel
theorem dX9_sumOf_114 : decode cX9_sumOf 114 = .ok (.getfield 105, 3) := by decide +kernel
theorem dX9_sumOf_117 : decode cX9_sumOf 117 = .ok (.bipush 8, 2) := by decide +kernel
theorem dX9_sumOf_119 : decode cX9_sumOf 119 = .ok (.aload_n 0, 1) := by decide +kernel
theorem dX9_sumOf_120 : decode cX9_sumOf 120 = .ok (.iload_n 2, 1) := by decide +kernel
theorem dX9_sumOf_121 : decode cX9_sumOf 121 = .ok (.invokevirtual 357, 3) := by decide +kernel
theorem dX9_sumOf_124 : decode cX9_sumOf 124 = .ok (.i2l, 1) := by decide +kernel
theorem dX9_sumOf_125 : decode cX9_sumOf 125 = .ok (.lastore, 1) := by decide +kernel
theorem dX9_sumOf_126 : decode cX9_sumOf 126 = .ok (.bipush 12, 2) := by decide +kernel
theorem dX9_sumOf_128 : decode cX9_sumOf 128 = .ok (.iload_n 1, 1) := by decide +kernel
theorem dX9_sumOf_129 : decode cX9_sumOf 129 = .ok (.imul, 1) := by decide +kernel
theorem dX9_sumOf_130 : decode cX9_sumOf 130 = .ok (.istore 4, 2) := by decide +kernel
theorem dX9_sumOf_132 : decode cX9_sumOf 132 = .ok (.iload 4, 2) := by decide +kernel
theorem dX9_sumOf_134 : decode cX9_sumOf 134 = .ok (.bipush 12, 2) := by decide +kernel
theorem dX9_sumOf_136 : decode cX9_sumOf 136 = .ok (.iload_n 1, 1) := by decide +kernel
theorem dX9_sumOf_137 : decode cX9_sumOf 137 = .ok (.imul, 1) := by decide +kernel
theorem dX9_sumOf_138 : decode cX9_sumOf 138 = .ok (.aload_n 0, 1) := by decide +kernel
theorem dX9_sumOf_139 : decode cX9_sumOf 139 = .ok (.getfield 90, 3) := by decide +kernel
theorem dX9_sumOf_142 : decode cX9_sumOf 142 = .ok (.iload_n 1, 1) := by decide +kernel
theorem dX9_sumOf_143 : decode cX9_sumOf 143 = .ok (.iaload, 1) := by decide +kernel
theorem dX9_sumOf_144 : decode cX9_sumOf 144 = .ok (.iadd, 1) := by decide +kernel
theorem dX9_sumOf_145 : decode cX9_sumOf 145 = .ok (.if_icmp .ge 70, 3) := by decide +kernel
theorem dX9_sumOf_148 : decode cX9_sumOf 148 = .ok (.aload_n 0, 1) := by decide +kernel
theorem dX9_sumOf_149 : decode cX9_sumOf 149 = .ok (.getfield 96, 3) := by decide +kernel
theorem dX9_sumOf_152 : decode cX9_sumOf 152 = .ok (.iload 4, 2) := by decide +kernel
theorem dX9_sumOf_154 : decode cX9_sumOf 154 = .ok (.iaload, 1) := by decide +kernel
theorem dX9_sumOf_155 : decode cX9_sumOf 155 = .ok (.aload_n 0, 1) := by decide +kernel
theorem dX9_sumOf_156 : decode cX9_sumOf 156 = .ok (.getfield 99, 3) := by decide +kernel
theorem dX9_sumOf_159 : decode cX9_sumOf 159 = .ok (.iload 4, 2) := by decide +kernel
theorem dX9_sumOf_161 : decode cX9_sumOf 161 = .ok (.iaload, 1) := by decide +kernel
theorem dX9_sumOf_162 : decode cX9_sumOf 162 = .ok (.if_icmp .eq 27, 3) := by decide +kernel
theorem dX9_sumOf_165 : decode cX9_sumOf 165 = .ok (.aload_n 0, 1) := by decide +kernel
theorem dX9_sumOf_166 : decode cX9_sumOf 166 = .ok (.iload_n 1, 1) := by decide +kernel
theorem dX9_sumOf_167 : decode cX9_sumOf 167 = .ok (.aload_n 0, 1) := by decide +kernel
theorem dX9_sumOf_168 : decode cX9_sumOf 168 = .ok (.getfield 96, 3) := by decide +kernel
theorem dX9_sumOf_171 : decode cX9_sumOf 171 = .ok (.iload 4, 2) := by decide +kernel
theorem dX9_sumOf_173 : decode cX9_sumOf 173 = .ok (.iaload, 1) := by decide +kernel
theorem dX9_sumOf_174 : decode cX9_sumOf 174 = .ok (.aload_n 0, 1) := by decide +kernel
theorem dX9_sumOf_175 : decode cX9_sumOf 175 = .ok (.getfield 99, 3) := by decide +kernel
theorem dX9_sumOf_178 : decode cX9_sumOf 178 = .ok (.iload 4, 2) := by decide +kernel
theorem dX9_sumOf_180 : decode cX9_sumOf 180 = .ok (.iaload, 1) := by decide +kernel
theorem dX9_sumOf_181 : decode cX9_sumOf 181 = .ok (.invokevirtual 375, 3) := by decide +kernel
theorem dX9_sumOf_184 : decode cX9_sumOf 184 = .ok (.lconst 1, 1) := by decide +kernel
theorem dX9_sumOf_185 : decode cX9_sumOf 185 = .ok (.lcmp, 1) := by decide +kernel
theorem dX9_sumOf_186 : decode cX9_sumOf 186 = .ok (.ifCond .ne 23, 3) := by decide +kernel
theorem dX9_sumOf_189 : decode cX9_sumOf 189 = .ok (.aload_n 0, 1) := by decide +kernel
theorem dX9_sumOf_190 : decode cX9_sumOf 190 = .ok (.iload_n 1, 1) := by decide +kernel
theorem dX9_sumOf_191 : decode cX9_sumOf 191 = .ok (.aload_n 0, 1) := by decide +kernel
theorem dX9_sumOf_192 : decode cX9_sumOf 192 = .ok (.getfield 93, 3) := by decide +kernel
theorem dX9_sumOf_195 : decode cX9_sumOf 195 = .ok (.iload 4, 2) := by decide +kernel
theorem dX9_sumOf_197 : decode cX9_sumOf 197 = .ok (.iaload, 1) := by decide +kernel
theorem dX9_sumOf_198 : decode cX9_sumOf 198 = .ok (.aload_n 0, 1) := by decide +kernel
theorem dX9_sumOf_199 : decode cX9_sumOf 199 = .ok (.getfield 96, 3) := by decide +kernel
theorem dX9_sumOf_202 : decode cX9_sumOf 202 = .ok (.iload 4, 2) := by decide +kernel
theorem dX9_sumOf_204 : decode cX9_sumOf 204 = .ok (.iaload, 1) := by decide +kernel
theorem dX9_sumOf_205 : decode cX9_sumOf 205 = .ok (.invokevirtual 375, 3) := by decide +kernel
theorem dX9_sumOf_208 : decode cX9_sumOf 208 = .ok (.lreturn, 1) := by decide +kernel
theorem dX9_sumOf_209 : decode cX9_sumOf 209 = .ok (.iinc 4 1, 3) := by decide +kernel
theorem dX9_sumOf_212 : decode cX9_sumOf 212 = .ok (.goto (-80), 3) := by decide +kernel
theorem dX9_sumOf_215 : decode cX9_sumOf 215 = .ok (.lconst 0, 1) := by decide +kernel
theorem dX9_sumOf_216 : decode cX9_sumOf 216 = .ok (.lreturn, 1) := by decide +kernel
theorem dX9_spotGoes_0 : decode cX9_spotGoes 0 = .ok (.aload_n 0, 1) := by decide +kernel
theorem dX9_spotGoes_1 : decode cX9_spotGoes 1 = .ok (.getfield 7, 3) := by decide +kernel
theorem dX9_spotGoes_4 : decode cX9_spotGoes 4 = .ok (.iconst 5, 1) := by decide +kernel
theorem dX9_spotGoes_5 : decode cX9_spotGoes 5 = .ok (.iaload, 1) := by decide +kernel
theorem dX9_spotGoes_6 : decode cX9_spotGoes 6 = .ok (.istore_n 2, 1) := by decide +kernel
theorem dX9_spotGoes_7 : decode cX9_spotGoes 7 = .ok (.aload_n 0, 1) := by decide +kernel
theorem dX9_spotGoes_8 : decode cX9_spotGoes 8 = .ok (.iload_n 1, 1) := by decide +kernel
theorem dX9_spotGoes_9 : decode cX9_spotGoes 9 = .ok (.iload_n 2, 1) := by decide +kernel
theorem dX9_spotGoes_10 : decode cX9_spotGoes 10 = .ok (.iconst 0, 1) := by decide +kernel
theorem dX9_spotGoes_11 : decode cX9_spotGoes 11 = .ok (.invokevirtual 379, 3) := by decide +kernel
theorem dX9_spotGoes_14 : decode cX9_spotGoes 14 = .ok (.lstore_n 3, 1) := by decide +kernel
theorem dX9_spotGoes_15 : decode cX9_spotGoes 15 = .ok (.iconst 1, 1) := by decide +kernel
theorem dX9_spotGoes_16 : decode cX9_spotGoes 16 = .ok (.istore 5, 2) := by decide +kernel
theorem dX9_spotGoes_18 : decode cX9_spotGoes 18 = .ok (.iload 5, 2) := by decide +kernel
theorem dX9_spotGoes_20 : decode cX9_spotGoes 20 = .ok (.iconst 5, 1) := by decide +kernel
theorem dX9_spotGoes_21 : decode cX9_spotGoes 21 = .ok (.if_icmp .ge 53, 3) := by decide +kernel
theorem dX9_spotGoes_24 : decode cX9_spotGoes 24 = .ok (.aload_n 0, 1) := by decide +kernel
theorem dX9_spotGoes_25 : decode cX9_spotGoes 25 = .ok (.aload_n 0, 1) := by decide +kernel
theorem dX9_spotGoes_26 : decode cX9_spotGoes 26 = .ok (.getfield 7, 3) := by decide +kernel
theorem dX9_spotGoes_29 : decode cX9_spotGoes 29 = .ok (.iconst 5, 1) := by decide +kernel
theorem dX9_spotGoes_30 : decode cX9_spotGoes 30 = .ok (.iaload, 1) := by decide +kernel
theorem dX9_spotGoes_31 : decode cX9_spotGoes 31 = .ok (.iload 5, 2) := by decide +kernel
theorem dX9_spotGoes_33 : decode cX9_spotGoes 33 = .ok (.invokevirtual 367, 3) := by decide +kernel
theorem dX9_spotGoes_36 : decode cX9_spotGoes 36 = .ok (.istore 6, 2) := by decide +kernel
theorem dX9_spotGoes_38 : decode cX9_spotGoes 38 = .ok (.iload 6, 2) := by decide +kernel
theorem dX9_spotGoes_40 : decode cX9_spotGoes 40 = .ok (.iconst (-1), 1) := by decide +kernel
theorem dX9_spotGoes_41 : decode cX9_spotGoes 41 = .ok (.if_icmp .eq 27, 3) := by decide +kernel
theorem dX9_spotGoes_44 : decode cX9_spotGoes 44 = .ok (.aload_n 0, 1) := by decide +kernel
theorem dX9_spotGoes_45 : decode cX9_spotGoes 45 = .ok (.iload_n 1, 1) := by decide +kernel
theorem dX9_spotGoes_46 : decode cX9_spotGoes 46 = .ok (.iload 6, 2) := by decide +kernel
theorem dX9_spotGoes_48 : decode cX9_spotGoes 48 = .ok (.iload 5, 2) := by decide +kernel
theorem dX9_spotGoes_50 : decode cX9_spotGoes 50 = .ok (.invokevirtual 379, 3) := by decide +kernel
theorem dX9_spotGoes_53 : decode cX9_spotGoes 53 = .ok (.lstore 7, 2) := by decide +kernel
theorem dX9_spotGoes_55 : decode cX9_spotGoes 55 = .ok (.lload 7, 2) := by decide +kernel
theorem dX9_spotGoes_57 : decode cX9_spotGoes 57 = .ok (.lload_n 3, 1) := by decide +kernel
theorem dX9_spotGoes_58 : decode cX9_spotGoes 58 = .ok (.lcmp, 1) := by decide +kernel
theorem dX9_spotGoes_59 : decode cX9_spotGoes 59 = .ok (.ifCond .le 9, 3) := by decide +kernel
theorem dX9_spotGoes_62 : decode cX9_spotGoes 62 = .ok (.iload 6, 2) := by decide +kernel
theorem dX9_spotGoes_64 : decode cX9_spotGoes 64 = .ok (.istore_n 2, 1) := by decide +kernel
theorem dX9_spotGoes_65 : decode cX9_spotGoes 65 = .ok (.lload 7, 2) := by decide +kernel
theorem dX9_spotGoes_67 : decode cX9_spotGoes 67 = .ok (.lstore_n 3, 1) := by decide +kernel
theorem dX9_spotGoes_68 : decode cX9_spotGoes 68 = .ok (.iinc 5 1, 3) := by decide +kernel
theorem dX9_spotGoes_71 : decode cX9_spotGoes 71 = .ok (.goto (-53), 3) := by decide +kernel
theorem dX9_spotGoes_74 : decode cX9_spotGoes 74 = .ok (.aload_n 0, 1) := by decide +kernel
theorem dX9_spotGoes_75 : decode cX9_spotGoes 75 = .ok (.getfield 7, 3) := by decide +kernel
theorem dX9_spotGoes_78 : decode cX9_spotGoes 78 = .ok (.bipush 6, 2) := by decide +kernel
theorem dX9_spotGoes_80 : decode cX9_spotGoes 80 = .ok (.aload_n 0, 1) := by decide +kernel
theorem dX9_spotGoes_81 : decode cX9_spotGoes 81 = .ok (.getfield 7, 3) := by decide +kernel
theorem dX9_spotGoes_84 : decode cX9_spotGoes 84 = .ok (.iconst 5, 1) := by decide +kernel
theorem dX9_spotGoes_85 : decode cX9_spotGoes 85 = .ok (.iaload, 1) := by decide +kernel
theorem dX9_spotGoes_86 : decode cX9_spotGoes 86 = .ok (.iastore, 1) := by decide +kernel
theorem dX9_spotGoes_87 : decode cX9_spotGoes 87 = .ok (.aload_n 0, 1) := by decide +kernel
theorem dX9_spotGoes_88 : decode cX9_spotGoes 88 = .ok (.getfield 7, 3) := by decide +kernel
theorem dX9_spotGoes_91 : decode cX9_spotGoes 91 = .ok (.iconst 5, 1) := by decide +kernel
theorem dX9_spotGoes_92 : decode cX9_spotGoes 92 = .ok (.iload_n 2, 1) := by decide +kernel
theorem dX9_spotGoes_93 : decode cX9_spotGoes 93 = .ok (.iastore, 1) := by decide +kernel
theorem dX9_spotGoes_94 : decode cX9_spotGoes 94 = .ok (.return_, 1) := by decide +kernel
theorem dX9_minute_0 : decode cX9_minute 0 = .ok (.aload_n 0, 1) := by decide +kernel
theorem dX9_minute_1 : decode cX9_minute 1 = .ok (.invokevirtual 382, 3) := by decide +kernel
theorem dX9_minute_4 : decode cX9_minute 4 = .ok (.aload_n 0, 1) := by decide +kernel
theorem dX9_minute_5 : decode cX9_minute 5 = .ok (.invokevirtual 385, 3) := by decide +kernel
theorem dX9_minute_8 : decode cX9_minute 8 = .ok (.aload_n 0, 1) := by decide +kernel
theorem dX9_minute_9 : decode cX9_minute 9 = .ok (.invokevirtual 388, 3) := by decide +kernel
theorem dX9_minute_12 : decode cX9_minute 12 = .ok (.aload_n 0, 1) := by decide +kernel
theorem dX9_minute_13 : decode cX9_minute 13 = .ok (.invokevirtual 391, 3) := by decide +kernel
theorem dX9_minute_16 : decode cX9_minute 16 = .ok (.aload_n 0, 1) := by decide +kernel
theorem dX9_minute_17 : decode cX9_minute 17 = .ok (.iload_n 1, 1) := by decide +kernel
theorem dX9_minute_18 : decode cX9_minute 18 = .ok (.invokevirtual 394, 3) := by decide +kernel
theorem dX9_minute_21 : decode cX9_minute 21 = .ok (.aload_n 0, 1) := by decide +kernel
theorem dX9_minute_22 : decode cX9_minute 22 = .ok (.getfield 7, 3) := by decide +kernel
theorem dX9_minute_25 : decode cX9_minute 25 = .ok (.bipush 7, 2) := by decide +kernel
theorem dX9_minute_27 : decode cX9_minute 27 = .ok (.dup2, 1) := by decide +kernel
theorem dX9_minute_28 : decode cX9_minute 28 = .ok (.iaload, 1) := by decide +kernel
theorem dX9_minute_29 : decode cX9_minute 29 = .ok (.iconst 1, 1) := by decide +kernel
theorem dX9_minute_30 : decode cX9_minute 30 = .ok (.iadd, 1) := by decide +kernel
theorem dX9_minute_31 : decode cX9_minute 31 = .ok (.iastore, 1) := by decide +kernel
theorem dX9_minute_32 : decode cX9_minute 32 = .ok (.aload_n 0, 1) := by decide +kernel
theorem dX9_minute_33 : decode cX9_minute 33 = .ok (.aload_n 0, 1) := by decide +kernel
theorem dX9_minute_34 : decode cX9_minute 34 = .ok (.getfield 7, 3) := by decide +kernel
theorem dX9_minute_37 : decode cX9_minute 37 = .ok (.iconst 5, 1) := by decide +kernel
theorem dX9_minute_38 : decode cX9_minute 38 = .ok (.iaload, 1) := by decide +kernel
theorem dX9_minute_39 : decode cX9_minute 39 = .ok (.invokevirtual 354, 3) := by decide +kernel
theorem dX9_minute_42 : decode cX9_minute 42 = .ok (.istore_n 2, 1) := by decide +kernel
theorem dX9_minute_43 : decode cX9_minute 43 = .ok (.iload_n 2, 1) := by decide +kernel
theorem dX9_minute_44 : decode cX9_minute 44 = .ok (.iconst (-1), 1) := by decide +kernel
theorem dX9_minute_45 : decode cX9_minute 45 = .ok (.if_icmp .eq 13, 3) := by decide +kernel
theorem dX9_minute_48 : decode cX9_minute 48 = .ok (.aload_n 0, 1) := by decide +kernel
theorem dX9_minute_49 : decode cX9_minute 49 = .ok (.getfield 25, 3) := by decide +kernel
theorem dX9_minute_52 : decode cX9_minute 52 = .ok (.iload_n 2, 1) := by decide +kernel
theorem dX9_minute_53 : decode cX9_minute 53 = .ok (.dup2, 1) := by decide +kernel
theorem dX9_minute_54 : decode cX9_minute 54 = .ok (.iaload, 1) := by decide +kernel
theorem dX9_minute_55 : decode cX9_minute 55 = .ok (.iconst 1, 1) := by decide +kernel
theorem dX9_minute_56 : decode cX9_minute 56 = .ok (.iadd, 1) := by decide +kernel
theorem dX9_minute_57 : decode cX9_minute 57 = .ok (.iastore, 1) := by decide +kernel
theorem dX9_minute_58 : decode cX9_minute 58 = .ok (.bipush 119, 2) := by decide +kernel
theorem dX9_minute_60 : decode cX9_minute 60 = .ok (.istore_n 3, 1) := by decide +kernel
theorem dX9_minute_61 : decode cX9_minute 61 = .ok (.iload_n 3, 1) := by decide +kernel
theorem dX9_minute_62 : decode cX9_minute 62 = .ok (.ifCond .le 23, 3) := by decide +kernel
theorem dX9_minute_65 : decode cX9_minute 65 = .ok (.aload_n 0, 1) := by decide +kernel
theorem dX9_minute_66 : decode cX9_minute 66 = .ok (.getfield 43, 3) := by decide +kernel
theorem dX9_minute_69 : decode cX9_minute 69 = .ok (.iload_n 3, 1) := by decide +kernel
theorem dX9_minute_70 : decode cX9_minute 70 = .ok (.aload_n 0, 1) := by decide +kernel
theorem dX9_minute_71 : decode cX9_minute 71 = .ok (.getfield 43, 3) := by decide +kernel
theorem dX9_minute_74 : decode cX9_minute 74 = .ok (.iload_n 3, 1) := by decide +kernel
theorem dX9_minute_75 : decode cX9_minute 75 = .ok (.iconst 1, 1) := by decide +kernel
theorem dX9_minute_76 : decode cX9_minute 76 = .ok (.isub, 1) := by decide +kernel
theorem dX9_minute_77 : decode cX9_minute 77 = .ok (.iaload, 1) := by decide +kernel
theorem dX9_minute_78 : decode cX9_minute 78 = .ok (.iastore, 1) := by decide +kernel
theorem dX9_minute_79 : decode cX9_minute 79 = .ok (.iinc 3 (-1), 3) := by decide +kernel
theorem dX9_minute_82 : decode cX9_minute 82 = .ok (.goto (-21), 3) := by decide +kernel
theorem dX9_minute_85 : decode cX9_minute 85 = .ok (.aload_n 0, 1) := by decide +kernel
theorem dX9_minute_86 : decode cX9_minute 86 = .ok (.getfield 43, 3) := by decide +kernel
theorem dX9_minute_89 : decode cX9_minute 89 = .ok (.iconst 0, 1) := by decide +kernel
theorem dX9_minute_90 : decode cX9_minute 90 = .ok (.aload_n 0, 1) := by decide +kernel
theorem dX9_minute_91 : decode cX9_minute 91 = .ok (.getfield 7, 3) := by decide +kernel
theorem dX9_minute_94 : decode cX9_minute 94 = .ok (.iconst 5, 1) := by decide +kernel
theorem dX9_minute_95 : decode cX9_minute 95 = .ok (.iaload, 1) := by decide +kernel
theorem dX9_minute_96 : decode cX9_minute 96 = .ok (.iastore, 1) := by decide +kernel
theorem dX9_minute_97 : decode cX9_minute 97 = .ok (.aload_n 0, 1) := by decide +kernel
theorem dX9_minute_98 : decode cX9_minute 98 = .ok (.getfield 7, 3) := by decide +kernel
theorem dX9_minute_101 : decode cX9_minute 101 = .ok (.bipush 12, 2) := by decide +kernel
theorem dX9_minute_103 : decode cX9_minute 103 = .ok (.dup2, 1) := by decide +kernel
theorem dX9_minute_104 : decode cX9_minute 104 = .ok (.iaload, 1) := by decide +kernel
theorem dX9_minute_105 : decode cX9_minute 105 = .ok (.aload_n 0, 1) := by decide +kernel
theorem dX9_minute_106 : decode cX9_minute 106 = .ok (.getfield 7, 3) := by decide +kernel
theorem dX9_minute_109 : decode cX9_minute 109 = .ok (.bipush 12, 2) := by decide +kernel
theorem dX9_minute_111 : decode cX9_minute 111 = .ok (.iaload, 1) := by decide +kernel
theorem dX9_minute_112 : decode cX9_minute 112 = .ok (.bipush 120, 2) := by decide +kernel
theorem dX9_minute_114 : decode cX9_minute 114 = .ok (.if_icmp .ge 7, 3) := by decide +kernel
theorem dX9_minute_117 : decode cX9_minute 117 = .ok (.iconst 1, 1) := by decide +kernel
theorem dX9_minute_118 : decode cX9_minute 118 = .ok (.goto 4, 3) := by decide +kernel
theorem dX9_minute_121 : decode cX9_minute 121 = .ok (.iconst 0, 1) := by decide +kernel
theorem dX9_minute_122 : decode cX9_minute 122 = .ok (.iadd, 1) := by decide +kernel
theorem dX9_minute_123 : decode cX9_minute 123 = .ok (.iastore, 1) := by decide +kernel
theorem dX9_minute_124 : decode cX9_minute 124 = .ok (.return_, 1) := by decide +kernel
theorem dX9_tick_0 : decode cX9_tick 0 = .ok (.aload_n 0, 1) := by decide +kernel
theorem dX9_tick_1 : decode cX9_tick 1 = .ok (.invokevirtual 397, 3) := by decide +kernel
theorem dX9_tick_4 : decode cX9_tick 4 = .ok (.ifCond .eq 38, 3) := by decide +kernel
theorem dX9_tick_7 : decode cX9_tick 7 = .ok (.aload_n 0, 1) := by decide +kernel
theorem dX9_tick_8 : decode cX9_tick 8 = .ok (.iload_n 1, 1) := by decide +kernel
theorem dX9_tick_9 : decode cX9_tick 9 = .ok (.invokevirtual 400, 3) := by decide +kernel
theorem dX9_tick_12 : decode cX9_tick 12 = .ok (.ifCond .eq 30, 3) := by decide +kernel
theorem dX9_tick_15 : decode cX9_tick 15 = .ok (.iload_n 2, 1) := by decide +kernel
theorem dX9_tick_16 : decode cX9_tick 16 = .ok (.i2l, 1) := by decide +kernel
theorem dX9_tick_17 : decode cX9_tick 17 = .ok (.lconst 1, 1) := by decide +kernel
theorem dX9_tick_18 : decode cX9_tick 18 = .ok (.ldc2_w 403, 3) := by decide +kernel
theorem dX9_tick_21 : decode cX9_tick 21 = .ok (.invokestatic 146, 3) := by decide +kernel
theorem dX9_tick_24 : decode cX9_tick 24 = .ok (.ifCond .eq 18, 3) := by decide +kernel
theorem dX9_tick_27 : decode cX9_tick 27 = .ok (.aload_n 0, 1) := by decide +kernel
theorem dX9_tick_28 : decode cX9_tick 28 = .ok (.getfield 7, 3) := by decide +kernel
theorem dX9_tick_31 : decode cX9_tick 31 = .ok (.bipush 7, 2) := by decide +kernel
theorem dX9_tick_33 : decode cX9_tick 33 = .ok (.iaload, 1) := by decide +kernel
theorem dX9_tick_34 : decode cX9_tick 34 = .ok (.iload_n 2, 1) := by decide +kernel
theorem dX9_tick_35 : decode cX9_tick 35 = .ok (.iadd, 1) := by decide +kernel
theorem dX9_tick_36 : decode cX9_tick 36 = .ok (.sipush 9999, 3) := by decide +kernel
theorem dX9_tick_39 : decode cX9_tick 39 = .ok (.if_icmp .le 5, 3) := by decide +kernel
theorem dX9_tick_42 : decode cX9_tick 42 = .ok (.iconst (-1), 1) := by decide +kernel
theorem dX9_tick_43 : decode cX9_tick 43 = .ok (.ireturn, 1) := by decide +kernel
theorem dX9_tick_44 : decode cX9_tick 44 = .ok (.iconst 0, 1) := by decide +kernel
theorem dX9_tick_45 : decode cX9_tick 45 = .ok (.istore_n 3, 1) := by decide +kernel
theorem dX9_tick_46 : decode cX9_tick 46 = .ok (.iload_n 3, 1) := by decide +kernel
theorem dX9_tick_47 : decode cX9_tick 47 = .ok (.iload_n 2, 1) := by decide +kernel
theorem dX9_tick_48 : decode cX9_tick 48 = .ok (.if_icmp .ge 14, 3) := by decide +kernel
theorem dX9_tick_51 : decode cX9_tick 51 = .ok (.aload_n 0, 1) := by decide +kernel
theorem dX9_tick_52 : decode cX9_tick 52 = .ok (.iload_n 1, 1) := by decide +kernel
theorem dX9_tick_53 : decode cX9_tick 53 = .ok (.invokevirtual 405, 3) := by decide +kernel
theorem dX9_tick_56 : decode cX9_tick 56 = .ok (.iinc 3 1, 3) := by decide +kernel
theorem dX9_tick_59 : decode cX9_tick 59 = .ok (.goto (-13), 3) := by decide +kernel
theorem dX9_tick_62 : decode cX9_tick 62 = .ok (.aload_n 0, 1) := by decide +kernel
theorem dX9_tick_63 : decode cX9_tick 63 = .ok (.getfield 7, 3) := by decide +kernel
theorem dX9_tick_66 : decode cX9_tick 66 = .ok (.bipush 7, 2) := by decide +kernel
theorem dX9_tick_68 : decode cX9_tick 68 = .ok (.iaload, 1) := by decide +kernel
theorem dX9_tick_69 : decode cX9_tick 69 = .ok (.ireturn, 1) := by decide +kernel
theorem dX9_keeps_0 : decode cX9_keeps 0 = .ok (.aload_n 0, 1) := by decide +kernel
theorem dX9_keeps_1 : decode cX9_keeps 1 = .ok (.getfield 7, 3) := by decide +kernel
theorem dX9_keeps_4 : decode cX9_keeps 4 = .ok (.aload_n 0, 1) := by decide +kernel
theorem dX9_keeps_5 : decode cX9_keeps 5 = .ok (.getfield 115, 3) := by decide +kernel
theorem dX9_keeps_8 : decode cX9_keeps 8 = .ok (.invokestatic 323, 3) := by decide +kernel
theorem dX9_keeps_11 : decode cX9_keeps 11 = .ok (.aload_n 0, 1) := by decide +kernel
theorem dX9_keeps_12 : decode cX9_keeps 12 = .ok (.getfield 13, 3) := by decide +kernel
theorem dX9_keeps_15 : decode cX9_keeps 15 = .ok (.aload_n 0, 1) := by decide +kernel
theorem dX9_keeps_16 : decode cX9_keeps 16 = .ok (.getfield 118, 3) := by decide +kernel
theorem dX9_keeps_19 : decode cX9_keeps 19 = .ok (.invokestatic 323, 3) := by decide +kernel
theorem dX9_keeps_22 : decode cX9_keeps 22 = .ok (.aload_n 0, 1) := by decide +kernel
theorem dX9_keeps_23 : decode cX9_keeps 23 = .ok (.getfield 25, 3) := by decide +kernel
theorem dX9_keeps_26 : decode cX9_keeps 26 = .ok (.aload_n 0, 1) := by decide +kernel
theorem dX9_keeps_27 : decode cX9_keeps 27 = .ok (.getfield 121, 3) := by decide +kernel
theorem dX9_keeps_30 : decode cX9_keeps 30 = .ok (.invokestatic 323, 3) := by decide +kernel
theorem dX9_keeps_33 : decode cX9_keeps 33 = .ok (.aload_n 0, 1) := by decide +kernel
theorem dX9_keeps_34 : decode cX9_keeps 34 = .ok (.getfield 43, 3) := by decide +kernel
theorem dX9_keeps_37 : decode cX9_keeps 37 = .ok (.aload_n 0, 1) := by decide +kernel
theorem dX9_keeps_38 : decode cX9_keeps 38 = .ok (.getfield 124, 3) := by decide +kernel
theorem dX9_keeps_41 : decode cX9_keeps 41 = .ok (.invokestatic 323, 3) := by decide +kernel
theorem dX9_keeps_44 : decode cX9_keeps 44 = .ok (.return_, 1) := by decide +kernel
theorem dX9_laysBack_0 : decode cX9_laysBack 0 = .ok (.aload_n 0, 1) := by decide +kernel
theorem dX9_laysBack_1 : decode cX9_laysBack 1 = .ok (.getfield 115, 3) := by decide +kernel
theorem dX9_laysBack_4 : decode cX9_laysBack 4 = .ok (.aload_n 0, 1) := by decide +kernel
theorem dX9_laysBack_5 : decode cX9_laysBack 5 = .ok (.getfield 7, 3) := by decide +kernel
theorem dX9_laysBack_8 : decode cX9_laysBack 8 = .ok (.invokestatic 323, 3) := by decide +kernel
theorem dX9_laysBack_11 : decode cX9_laysBack 11 = .ok (.aload_n 0, 1) := by decide +kernel
theorem dX9_laysBack_12 : decode cX9_laysBack 12 = .ok (.getfield 118, 3) := by decide +kernel
theorem dX9_laysBack_15 : decode cX9_laysBack 15 = .ok (.aload_n 0, 1) := by decide +kernel
theorem dX9_laysBack_16 : decode cX9_laysBack 16 = .ok (.getfield 13, 3) := by decide +kernel
theorem dX9_laysBack_19 : decode cX9_laysBack 19 = .ok (.invokestatic 323, 3) := by decide +kernel
theorem dX9_laysBack_22 : decode cX9_laysBack 22 = .ok (.aload_n 0, 1) := by decide +kernel
theorem dX9_laysBack_23 : decode cX9_laysBack 23 = .ok (.getfield 121, 3) := by decide +kernel
theorem dX9_laysBack_26 : decode cX9_laysBack 26 = .ok (.aload_n 0, 1) := by decide +kernel
theorem dX9_laysBack_27 : decode cX9_laysBack 27 = .ok (.getfield 25, 3) := by decide +kernel
theorem dX9_laysBack_30 : decode cX9_laysBack 30 = .ok (.invokestatic 323, 3) := by decide +kernel
theorem dX9_laysBack_33 : decode cX9_laysBack 33 = .ok (.aload_n 0, 1) := by decide +kernel
theorem dX9_laysBack_34 : decode cX9_laysBack 34 = .ok (.getfield 124, 3) := by decide +kernel
theorem dX9_laysBack_37 : decode cX9_laysBack 37 = .ok (.aload_n 0, 1) := by decide +kernel
theorem dX9_laysBack_38 : decode cX9_laysBack 38 = .ok (.getfield 43, 3) := by decide +kernel
theorem dX9_laysBack_41 : decode cX9_laysBack 41 = .ok (.invokestatic 323, 3) := by decide +kernel
theorem dX9_laysBack_44 : decode cX9_laysBack 44 = .ok (.return_, 1) := by decide +kernel
theorem dX9_spotIn_0 : decode cX9_spotIn 0 = .ok (.aload_n 0, 1) := by decide +kernel
theorem dX9_spotIn_1 : decode cX9_spotIn 1 = .ok (.invokevirtual 407, 3) := by decide +kernel
theorem dX9_spotIn_4 : decode cX9_spotIn 4 = .ok (.iconst 0, 1) := by decide +kernel
theorem dX9_spotIn_5 : decode cX9_spotIn 5 = .ok (.istore_n 3, 1) := by decide +kernel
theorem dX9_spotIn_6 : decode cX9_spotIn 6 = .ok (.iload_n 3, 1) := by decide +kernel
theorem dX9_spotIn_7 : decode cX9_spotIn 7 = .ok (.iload_n 2, 1) := by decide +kernel
theorem dX9_spotIn_8 : decode cX9_spotIn 8 = .ok (.if_icmp .ge 14, 3) := by decide +kernel
theorem dX9_spotIn_11 : decode cX9_spotIn 11 = .ok (.aload_n 0, 1) := by decide +kernel
theorem dX9_spotIn_12 : decode cX9_spotIn 12 = .ok (.iload_n 1, 1) := by decide +kernel
theorem dX9_spotIn_13 : decode cX9_spotIn 13 = .ok (.invokevirtual 405, 3) := by decide +kernel
theorem dX9_spotIn_16 : decode cX9_spotIn 16 = .ok (.iinc 3 1, 3) := by decide +kernel
theorem dX9_spotIn_19 : decode cX9_spotIn 19 = .ok (.goto (-13), 3) := by decide +kernel
theorem dX9_spotIn_22 : decode cX9_spotIn 22 = .ok (.aload_n 0, 1) := by decide +kernel
theorem dX9_spotIn_23 : decode cX9_spotIn 23 = .ok (.getfield 7, 3) := by decide +kernel
theorem dX9_spotIn_26 : decode cX9_spotIn 26 = .ok (.iconst 5, 1) := by decide +kernel
theorem dX9_spotIn_27 : decode cX9_spotIn 27 = .ok (.iaload, 1) := by decide +kernel
theorem dX9_spotIn_28 : decode cX9_spotIn 28 = .ok (.istore_n 3, 1) := by decide +kernel
theorem dX9_spotIn_29 : decode cX9_spotIn 29 = .ok (.aload_n 0, 1) := by decide +kernel
theorem dX9_spotIn_30 : decode cX9_spotIn 30 = .ok (.invokevirtual 410, 3) := by decide +kernel
theorem dX9_spotIn_33 : decode cX9_spotIn 33 = .ok (.iload_n 3, 1) := by decide +kernel
theorem dX9_spotIn_34 : decode cX9_spotIn 34 = .ok (.ireturn, 1) := by decide +kernel
theorem dX9_isAsked_0 : decode cX9_isAsked 0 = .ok (.aload_n 0, 1) := by decide +kernel
theorem dX9_isAsked_1 : decode cX9_isAsked 1 = .ok (.invokevirtual 397, 3) := by decide +kernel
theorem dX9_isAsked_4 : decode cX9_isAsked 4 = .ok (.ifCond .eq 26, 3) := by decide +kernel
theorem dX9_isAsked_7 : decode cX9_isAsked 7 = .ok (.aload_n 0, 1) := by decide +kernel
theorem dX9_isAsked_8 : decode cX9_isAsked 8 = .ok (.iload_n 1, 1) := by decide +kernel
theorem dX9_isAsked_9 : decode cX9_isAsked 9 = .ok (.invokevirtual 400, 3) := by decide +kernel
theorem dX9_isAsked_12 : decode cX9_isAsked 12 = .ok (.ifCond .eq 18, 3) := by decide +kernel
theorem dX9_isAsked_15 : decode cX9_isAsked 15 = .ok (.iload_n 2, 1) := by decide +kernel
theorem dX9_isAsked_16 : decode cX9_isAsked 16 = .ok (.i2l, 1) := by decide +kernel
theorem dX9_isAsked_17 : decode cX9_isAsked 17 = .ok (.lconst 0, 1) := by decide +kernel
theorem dX9_isAsked_18 : decode cX9_isAsked 18 = .ok (.iload_n 3, 1) := by decide +kernel
theorem dX9_isAsked_19 : decode cX9_isAsked 19 = .ok (.i2l, 1) := by decide +kernel
theorem dX9_isAsked_20 : decode cX9_isAsked 20 = .ok (.invokestatic 146, 3) := by decide +kernel
theorem dX9_isAsked_23 : decode cX9_isAsked 23 = .ok (.ifCond .eq 7, 3) := by decide +kernel
theorem dX9_isAsked_26 : decode cX9_isAsked 26 = .ok (.iconst 1, 1) := by decide +kernel
theorem dX9_isAsked_27 : decode cX9_isAsked 27 = .ok (.goto 4, 3) := by decide +kernel
theorem dX9_isAsked_30 : decode cX9_isAsked 30 = .ok (.iconst 0, 1) := by decide +kernel
theorem dX9_isAsked_31 : decode cX9_isAsked 31 = .ok (.ireturn, 1) := by decide +kernel
theorem dX9_part_0 : decode cX9_part 0 = .ok (.iload_n 1, 1) := by decide +kernel
theorem dX9_part_1 : decode cX9_part 1 = .ok (.ifCond .ne 10, 3) := by decide +kernel
theorem dX9_part_4 : decode cX9_part 4 = .ok (.iload_n 0, 1) := by decide +kernel
theorem dX9_part_5 : decode cX9_part 5 = .ok (.bipush 10, 2) := by decide +kernel
theorem dX9_part_7 : decode cX9_part 7 = .ok (.irem, 1) := by decide +kernel
theorem dX9_part_8 : decode cX9_part 8 = .ok (.goto 7, 3) := by decide +kernel
theorem dX9_part_11 : decode cX9_part 11 = .ok (.iload_n 0, 1) := by decide +kernel
theorem dX9_part_12 : decode cX9_part 12 = .ok (.bipush 10, 2) := by decide +kernel
theorem dX9_part_14 : decode cX9_part 14 = .ok (.idiv, 1) := by decide +kernel
theorem dX9_part_15 : decode cX9_part 15 = .ok (.ireturn, 1) := by decide +kernel
theorem dX9_there_0 : decode cX9_there 0 = .ok (.aload_n 0, 1) := by decide +kernel
theorem dX9_there_1 : decode cX9_there 1 = .ok (.iload_n 1, 1) := by decide +kernel
theorem dX9_there_2 : decode cX9_there 2 = .ok (.iload_n 2, 1) := by decide +kernel
theorem dX9_there_3 : decode cX9_there 3 = .ok (.bipush 60, 2) := by decide +kernel
theorem dX9_there_5 : decode cX9_there 5 = .ok (.invokevirtual 413, 3) := by decide +kernel
theorem dX9_there_8 : decode cX9_there 8 = .ok (.ifCond .eq 13, 3) := by decide +kernel
theorem dX9_there_11 : decode cX9_there 11 = .ok (.iload_n 3, 1) := by decide +kernel
theorem dX9_there_12 : decode cX9_there 12 = .ok (.i2l, 1) := by decide +kernel
theorem dX9_there_13 : decode cX9_there 13 = .ok (.lconst 0, 1) := by decide +kernel
theorem dX9_there_14 : decode cX9_there 14 = .ok (.lconst 1, 1) := by decide +kernel
theorem dX9_there_15 : decode cX9_there 15 = .ok (.invokestatic 146, 3) := by decide +kernel
theorem dX9_there_18 : decode cX9_there 18 = .ok (.ifCond .ne 7, 3) := by decide +kernel
theorem dX9_there_21 : decode cX9_there 21 = .ok (.iconst (-1), 1) := by decide +kernel
theorem dX9_there_22 : decode cX9_there 22 = .ok (.goto 13, 3) := by decide +kernel
theorem dX9_there_25 : decode cX9_there 25 = .ok (.aload_n 0, 1) := by decide +kernel
theorem dX9_there_26 : decode cX9_there 26 = .ok (.iload_n 1, 1) := by decide +kernel
theorem dX9_there_27 : decode cX9_there 27 = .ok (.iload_n 2, 1) := by decide +kernel
theorem dX9_there_28 : decode cX9_there 28 = .ok (.invokevirtual 417, 3) := by decide +kernel
theorem dX9_there_31 : decode cX9_there 31 = .ok (.iload_n 3, 1) := by decide +kernel
theorem dX9_there_32 : decode cX9_there 32 = .ok (.invokestatic 420, 3) := by decide +kernel
theorem dX9_there_35 : decode cX9_there 35 = .ok (.ireturn, 1) := by decide +kernel
theorem dX9_fillsDeaf_0 : decode cX9_fillsDeaf 0 = .ok (.aload_n 0, 1) := by decide +kernel
theorem dX9_fillsDeaf_1 : decode cX9_fillsDeaf 1 = .ok (.invokevirtual 407, 3) := by decide +kernel
theorem dX9_fillsDeaf_4 : decode cX9_fillsDeaf 4 = .ok (.iconst 0, 1) := by decide +kernel
theorem dX9_fillsDeaf_5 : decode cX9_fillsDeaf 5 = .ok (.istore_n 3, 1) := by decide +kernel
theorem dX9_fillsDeaf_6 : decode cX9_fillsDeaf 6 = .ok (.iload_n 3, 1) := by decide +kernel
theorem dX9_fillsDeaf_7 : decode cX9_fillsDeaf 7 = .ok (.iload_n 2, 1) := by decide +kernel
theorem dX9_fillsDeaf_8 : decode cX9_fillsDeaf 8 = .ok (.if_icmp .ge 14, 3) := by decide +kernel
theorem dX9_fillsDeaf_11 : decode cX9_fillsDeaf 11 = .ok (.aload_n 0, 1) := by decide +kernel
theorem dX9_fillsDeaf_12 : decode cX9_fillsDeaf 12 = .ok (.iload_n 1, 1) := by decide +kernel
theorem dX9_fillsDeaf_13 : decode cX9_fillsDeaf 13 = .ok (.invokevirtual 405, 3) := by decide +kernel
theorem dX9_fillsDeaf_16 : decode cX9_fillsDeaf 16 = .ok (.iinc 3 1, 3) := by decide +kernel
theorem dX9_fillsDeaf_19 : decode cX9_fillsDeaf 19 = .ok (.goto (-13), 3) := by decide +kernel
theorem dX9_fillsDeaf_22 : decode cX9_fillsDeaf 22 = .ok (.iconst 0, 1) := by decide +kernel
theorem dX9_fillsDeaf_23 : decode cX9_fillsDeaf 23 = .ok (.istore_n 3, 1) := by decide +kernel
theorem dX9_fillsDeaf_24 : decode cX9_fillsDeaf 24 = .ok (.iload_n 3, 1) := by decide +kernel
theorem dX9_fillsDeaf_25 : decode cX9_fillsDeaf 25 = .ok (.bipush 12, 2) := by decide +kernel
theorem dX9_fillsDeaf_27 : decode cX9_fillsDeaf 27 = .ok (.if_icmp .ge 28, 3) := by decide +kernel
theorem dX9_fillsDeaf_30 : decode cX9_fillsDeaf 30 = .ok (.aload_n 0, 1) := by decide +kernel
theorem dX9_fillsDeaf_31 : decode cX9_fillsDeaf 31 = .ok (.getfield 127, 3) := by decide +kernel
theorem dX9_fillsDeaf_34 : decode cX9_fillsDeaf 34 = .ok (.iload_n 3, 1) := by decide +kernel
theorem dX9_fillsDeaf_35 : decode cX9_fillsDeaf 35 = .ok (.aload_n 0, 1) := by decide +kernel
theorem dX9_fillsDeaf_36 : decode cX9_fillsDeaf 36 = .ok (.getfield 25, 3) := by decide +kernel
theorem dX9_fillsDeaf_39 : decode cX9_fillsDeaf 39 = .ok (.iload_n 3, 1) := by decide +kernel
theorem dX9_fillsDeaf_40 : decode cX9_fillsDeaf 40 = .ok (.iaload, 1) := by decide +kernel
theorem dX9_fillsDeaf_41 : decode cX9_fillsDeaf 41 = .ok (.aload_n 0, 1) := by decide +kernel
theorem dX9_fillsDeaf_42 : decode cX9_fillsDeaf 42 = .ok (.getfield 121, 3) := by decide +kernel
theorem dX9_fillsDeaf_45 : decode cX9_fillsDeaf 45 = .ok (.iload_n 3, 1) := by decide +kernel
theorem dX9_fillsDeaf_46 : decode cX9_fillsDeaf 46 = .ok (.iaload, 1) := by decide +kernel
theorem dX9_fillsDeaf_47 : decode cX9_fillsDeaf 47 = .ok (.isub, 1) := by decide +kernel
theorem dX9_fillsDeaf_48 : decode cX9_fillsDeaf 48 = .ok (.iastore, 1) := by decide +kernel
theorem dX9_fillsDeaf_49 : decode cX9_fillsDeaf 49 = .ok (.iinc 3 1, 3) := by decide +kernel
theorem dX9_fillsDeaf_52 : decode cX9_fillsDeaf 52 = .ok (.goto (-28), 3) := by decide +kernel
theorem dX9_fillsDeaf_55 : decode cX9_fillsDeaf 55 = .ok (.aload_n 0, 1) := by decide +kernel
theorem dX9_fillsDeaf_56 : decode cX9_fillsDeaf 56 = .ok (.invokevirtual 410, 3) := by decide +kernel
theorem dX9_fillsDeaf_59 : decode cX9_fillsDeaf 59 = .ok (.return_, 1) := by decide +kernel
theorem dX9_deaf_0 : decode cX9_deaf 0 = .ok (.aload_n 0, 1) := by decide +kernel
theorem dX9_deaf_1 : decode cX9_deaf 1 = .ok (.iload_n 1, 1) := by decide +kernel
theorem dX9_deaf_2 : decode cX9_deaf 2 = .ok (.iload_n 2, 1) := by decide +kernel
theorem dX9_deaf_3 : decode cX9_deaf 3 = .ok (.bipush 60, 2) := by decide +kernel
theorem dX9_deaf_5 : decode cX9_deaf 5 = .ok (.invokevirtual 413, 3) := by decide +kernel
theorem dX9_deaf_8 : decode cX9_deaf 8 = .ok (.ifCond .eq 11, 3) := by decide +kernel
theorem dX9_deaf_11 : decode cX9_deaf 11 = .ok (.aload_n 0, 1) := by decide +kernel
theorem dX9_deaf_12 : decode cX9_deaf 12 = .ok (.iload_n 3, 1) := by decide +kernel
theorem dX9_deaf_13 : decode cX9_deaf 13 = .ok (.invokevirtual 154, 3) := by decide +kernel
theorem dX9_deaf_16 : decode cX9_deaf 16 = .ok (.ifCond .ne 5, 3) := by decide +kernel
theorem dX9_deaf_19 : decode cX9_deaf 19 = .ok (.iconst (-1), 1) := by decide +kernel
theorem dX9_deaf_20 : decode cX9_deaf 20 = .ok (.ireturn, 1) := by decide +kernel
theorem dX9_deaf_21 : decode cX9_deaf 21 = .ok (.aload_n 0, 1) := by decide +kernel
theorem dX9_deaf_22 : decode cX9_deaf 22 = .ok (.iload_n 1, 1) := by decide +kernel
theorem dX9_deaf_23 : decode cX9_deaf 23 = .ok (.iload_n 2, 1) := by decide +kernel
theorem dX9_deaf_24 : decode cX9_deaf 24 = .ok (.invokevirtual 423, 3) := by decide +kernel
theorem dX9_deaf_27 : decode cX9_deaf 27 = .ok (.aload_n 0, 1) := by decide +kernel
theorem dX9_deaf_28 : decode cX9_deaf 28 = .ok (.getfield 127, 3) := by decide +kernel
theorem dX9_deaf_31 : decode cX9_deaf 31 = .ok (.iload_n 3, 1) := by decide +kernel
theorem dX9_deaf_32 : decode cX9_deaf 32 = .ok (.iaload, 1) := by decide +kernel
theorem dX9_deaf_33 : decode cX9_deaf 33 = .ok (.ireturn, 1) := by decide +kernel
theorem dX9_critic_0 : decode cX9_critic 0 = .ok (.aload_n 0, 1) := by decide +kernel
theorem dX9_critic_1 : decode cX9_critic 1 = .ok (.iload_n 1, 1) := by decide +kernel
theorem dX9_critic_2 : decode cX9_critic 2 = .ok (.iload_n 2, 1) := by decide +kernel
theorem dX9_critic_3 : decode cX9_critic 3 = .ok (.bipush 60, 2) := by decide +kernel
theorem dX9_critic_5 : decode cX9_critic 5 = .ok (.invokevirtual 413, 3) := by decide +kernel
theorem dX9_critic_8 : decode cX9_critic 8 = .ok (.ifCond .eq 13, 3) := by decide +kernel
theorem dX9_critic_11 : decode cX9_critic 11 = .ok (.iload_n 3, 1) := by decide +kernel
theorem dX9_critic_12 : decode cX9_critic 12 = .ok (.i2l, 1) := by decide +kernel
theorem dX9_critic_13 : decode cX9_critic 13 = .ok (.lconst 0, 1) := by decide +kernel
theorem dX9_critic_14 : decode cX9_critic 14 = .ok (.lconst 1, 1) := by decide +kernel
theorem dX9_critic_15 : decode cX9_critic 15 = .ok (.invokestatic 146, 3) := by decide +kernel
theorem dX9_critic_18 : decode cX9_critic 18 = .ok (.ifCond .ne 5, 3) := by decide +kernel
theorem dX9_critic_21 : decode cX9_critic 21 = .ok (.iconst (-1), 1) := by decide +kernel
theorem dX9_critic_22 : decode cX9_critic 22 = .ok (.ireturn, 1) := by decide +kernel
theorem dX9_critic_23 : decode cX9_critic 23 = .ok (.aload_n 0, 1) := by decide +kernel
theorem dX9_critic_24 : decode cX9_critic 24 = .ok (.getfield 7, 3) := by decide +kernel
theorem dX9_critic_27 : decode cX9_critic 27 = .ok (.iconst 2, 1) := by decide +kernel
theorem dX9_critic_28 : decode cX9_critic 28 = .ok (.iaload, 1) := by decide +kernel
theorem dX9_critic_29 : decode cX9_critic 29 = .ok (.ifCond .ne 6, 3) := by decide +kernel
theorem dX9_critic_32 : decode cX9_critic 32 = .ok (.bipush (-2), 2) := by decide +kernel
theorem dX9_critic_34 : decode cX9_critic 34 = .ok (.ireturn, 1) := by decide +kernel
theorem dX9_critic_35 : decode cX9_critic 35 = .ok (.aload_n 0, 1) := by decide +kernel
theorem dX9_critic_36 : decode cX9_critic 36 = .ok (.iload_n 1, 1) := by decide +kernel
theorem dX9_critic_37 : decode cX9_critic 37 = .ok (.iload_n 2, 1) := by decide +kernel
theorem dX9_critic_38 : decode cX9_critic 38 = .ok (.invokevirtual 423, 3) := by decide +kernel
theorem dX9_critic_41 : decode cX9_critic 41 = .ok (.iconst 0, 1) := by decide +kernel
theorem dX9_critic_42 : decode cX9_critic 42 = .ok (.istore 4, 2) := by decide +kernel
theorem dX9_critic_44 : decode cX9_critic 44 = .ok (.iconst 1, 1) := by decide +kernel
theorem dX9_critic_45 : decode cX9_critic 45 = .ok (.istore 5, 2) := by decide +kernel
theorem dX9_critic_47 : decode cX9_critic 47 = .ok (.iload 5, 2) := by decide +kernel
theorem dX9_critic_49 : decode cX9_critic 49 = .ok (.aload_n 0, 1) := by decide +kernel
theorem dX9_critic_50 : decode cX9_critic 50 = .ok (.getfield 7, 3) := by decide +kernel
