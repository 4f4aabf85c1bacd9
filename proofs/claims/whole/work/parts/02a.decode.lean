theorem dX0_init_0 : decode cX0_init 0 = .ok (.aload_n 0, 1) := by decide +kernel
theorem dX0_init_1 : decode cX0_init 1 = .ok (.invokespecial 3, 3) := by decide +kernel
theorem dX0_init_4 : decode cX0_init 4 = .ok (.aload_n 0, 1) := by decide +kernel
theorem dX0_init_5 : decode cX0_init 5 = .ok (.new 9, 3) := by decide +kernel
theorem dX0_init_8 : decode cX0_init 8 = .ok (.dup, 1) := by decide +kernel
theorem dX0_init_9 : decode cX0_init 9 = .ok (.invokespecial 11, 3) := by decide +kernel
theorem dX0_init_12 : decode cX0_init 12 = .ok (.putfield 12, 3) := by decide +kernel
theorem dX0_init_15 : decode cX0_init 15 = .ok (.aload_n 0, 1) := by decide +kernel
theorem dX0_init_16 : decode cX0_init 16 = .ok (.new 18, 3) := by decide +kernel
theorem dX0_init_19 : decode cX0_init 19 = .ok (.dup, 1) := by decide +kernel
theorem dX0_init_20 : decode cX0_init 20 = .ok (.invokespecial 20, 3) := by decide +kernel
theorem dX0_init_23 : decode cX0_init 23 = .ok (.putfield 21, 3) := by decide +kernel
theorem dX0_init_26 : decode cX0_init 26 = .ok (.aload_n 0, 1) := by decide +kernel
theorem dX0_init_27 : decode cX0_init 27 = .ok (.bipush 80, 2) := by decide +kernel
theorem dX0_init_29 : decode cX0_init 29 = .ok (.newarray .int, 2) := by decide +kernel
theorem dX0_init_31 : decode cX0_init 31 = .ok (.putfield 25, 3) := by decide +kernel
theorem dX0_init_34 : decode cX0_init 34 = .ok (.aload_n 0, 1) := by decide +kernel
theorem dX0_init_35 : decode cX0_init 35 = .ok (.bipush 80, 2) := by decide +kernel
theorem dX0_init_37 : decode cX0_init 37 = .ok (.newarray .int, 2) := by decide +kernel
theorem dX0_init_39 : decode cX0_init 39 = .ok (.putfield 29, 3) := by decide +kernel
theorem dX0_init_42 : decode cX0_init 42 = .ok (.aload_n 0, 1) := by decide +kernel
theorem dX0_init_43 : decode cX0_init 43 = .ok (.iconst (-1), 1) := by decide +kernel
theorem dX0_init_44 : decode cX0_init 44 = .ok (.putfield 32, 3) := by decide +kernel
theorem dX0_init_47 : decode cX0_init 47 = .ok (.aload_n 0, 1) := by decide +kernel
theorem dX0_init_48 : decode cX0_init 48 = .ok (.iconst (-1), 1) := by decide +kernel
theorem dX0_init_49 : decode cX0_init 49 = .ok (.putfield 36, 3) := by decide +kernel
theorem dX0_init_52 : decode cX0_init 52 = .ok (.aload_n 0, 1) := by decide +kernel
theorem dX0_init_53 : decode cX0_init 53 = .ok (.iconst 0, 1) := by decide +kernel
theorem dX0_init_54 : decode cX0_init 54 = .ok (.putfield 39, 3) := by decide +kernel
theorem dX0_init_57 : decode cX0_init 57 = .ok (.aload_n 0, 1) := by decide +kernel
theorem dX0_init_58 : decode cX0_init 58 = .ok (.iconst 0, 1) := by decide +kernel
theorem dX0_init_59 : decode cX0_init 59 = .ok (.putfield 42, 3) := by decide +kernel
theorem dX0_init_62 : decode cX0_init 62 = .ok (.aload_n 0, 1) := by decide +kernel
theorem dX0_init_63 : decode cX0_init 63 = .ok (.iconst 0, 1) := by decide +kernel
theorem dX0_init_64 : decode cX0_init 64 = .ok (.putfield 45, 3) := by decide +kernel
theorem dX0_init_67 : decode cX0_init 67 = .ok (.aload_n 0, 1) := by decide +kernel
theorem dX0_init_68 : decode cX0_init 68 = .ok (.iconst 0, 1) := by decide +kernel
theorem dX0_init_69 : decode cX0_init 69 = .ok (.putfield 48, 3) := by decide +kernel
theorem dX0_init_72 : decode cX0_init 72 = .ok (.aload_n 0, 1) := by decide +kernel
theorem dX0_init_73 : decode cX0_init 73 = .ok (.iconst 0, 1) := by decide +kernel
theorem dX0_init_74 : decode cX0_init 74 = .ok (.putfield 51, 3) := by decide +kernel
theorem dX0_init_77 : decode cX0_init 77 = .ok (.aload_n 0, 1) := by decide +kernel
theorem dX0_init_78 : decode cX0_init 78 = .ok (.bipush 120, 2) := by decide +kernel
theorem dX0_init_80 : decode cX0_init 80 = .ok (.newarray .int, 2) := by decide +kernel
theorem dX0_init_82 : decode cX0_init 82 = .ok (.putfield 54, 3) := by decide +kernel
theorem dX0_init_85 : decode cX0_init 85 = .ok (.return_, 1) := by decide +kernel
theorem dX0_clear_0 : decode cX0_clear 0 = .ok (.aload_n 0, 1) := by decide +kernel
theorem dX0_clear_1 : decode cX0_clear 1 = .ok (.getfield 12, 3) := by decide +kernel
theorem dX0_clear_4 : decode cX0_clear 4 = .ok (.invokevirtual 57, 3) := by decide +kernel
theorem dX0_clear_7 : decode cX0_clear 7 = .ok (.aload_n 0, 1) := by decide +kernel
theorem dX0_clear_8 : decode cX0_clear 8 = .ok (.getfield 21, 3) := by decide +kernel
theorem dX0_clear_11 : decode cX0_clear 11 = .ok (.invokevirtual 60, 3) := by decide +kernel
theorem dX0_clear_14 : decode cX0_clear 14 = .ok (.aload_n 0, 1) := by decide +kernel
theorem dX0_clear_15 : decode cX0_clear 15 = .ok (.getfield 25, 3) := by decide +kernel
theorem dX0_clear_18 : decode cX0_clear 18 = .ok (.iconst 0, 1) := by decide +kernel
theorem dX0_clear_19 : decode cX0_clear 19 = .ok (.invokestatic 61, 3) := by decide +kernel
theorem dX0_clear_22 : decode cX0_clear 22 = .ok (.aload_n 0, 1) := by decide +kernel
theorem dX0_clear_23 : decode cX0_clear 23 = .ok (.iconst 0, 1) := by decide +kernel
theorem dX0_clear_24 : decode cX0_clear 24 = .ok (.putfield 32, 3) := by decide +kernel
theorem dX0_clear_27 : decode cX0_clear 27 = .ok (.aload_n 0, 1) := by decide +kernel
theorem dX0_clear_28 : decode cX0_clear 28 = .ok (.iconst (-1), 1) := by decide +kernel
theorem dX0_clear_29 : decode cX0_clear 29 = .ok (.putfield 36, 3) := by decide +kernel
theorem dX0_clear_32 : decode cX0_clear 32 = .ok (.aload_n 0, 1) := by decide +kernel
theorem dX0_clear_33 : decode cX0_clear 33 = .ok (.iconst 0, 1) := by decide +kernel
theorem dX0_clear_34 : decode cX0_clear 34 = .ok (.putfield 39, 3) := by decide +kernel
theorem dX0_clear_37 : decode cX0_clear 37 = .ok (.aload_n 0, 1) := by decide +kernel
theorem dX0_clear_38 : decode cX0_clear 38 = .ok (.iconst 0, 1) := by decide +kernel
theorem dX0_clear_39 : decode cX0_clear 39 = .ok (.putfield 42, 3) := by decide +kernel
theorem dX0_clear_42 : decode cX0_clear 42 = .ok (.aload_n 0, 1) := by decide +kernel
theorem dX0_clear_43 : decode cX0_clear 43 = .ok (.iconst 0, 1) := by decide +kernel
theorem dX0_clear_44 : decode cX0_clear 44 = .ok (.putfield 45, 3) := by decide +kernel
theorem dX0_clear_47 : decode cX0_clear 47 = .ok (.aload_n 0, 1) := by decide +kernel
theorem dX0_clear_48 : decode cX0_clear 48 = .ok (.iconst 0, 1) := by decide +kernel
theorem dX0_clear_49 : decode cX0_clear 49 = .ok (.putfield 48, 3) := by decide +kernel
theorem dX0_clear_52 : decode cX0_clear 52 = .ok (.return_, 1) := by decide +kernel
theorem dX0_copy_0 : decode cX0_copy 0 = .ok (.aload_n 0, 1) := by decide +kernel
theorem dX0_copy_1 : decode cX0_copy 1 = .ok (.getfield 12, 3) := by decide +kernel
theorem dX0_copy_4 : decode cX0_copy 4 = .ok (.aload_n 1, 1) := by decide +kernel
theorem dX0_copy_5 : decode cX0_copy 5 = .ok (.getfield 12, 3) := by decide +kernel
theorem dX0_copy_8 : decode cX0_copy 8 = .ok (.invokevirtual 67, 3) := by decide +kernel
theorem dX0_copy_11 : decode cX0_copy 11 = .ok (.aload_n 1, 1) := by decide +kernel
theorem dX0_copy_12 : decode cX0_copy 12 = .ok (.getfield 54, 3) := by decide +kernel
theorem dX0_copy_15 : decode cX0_copy 15 = .ok (.iconst 0, 1) := by decide +kernel
theorem dX0_copy_16 : decode cX0_copy 16 = .ok (.aload_n 0, 1) := by decide +kernel
theorem dX0_copy_17 : decode cX0_copy 17 = .ok (.getfield 54, 3) := by decide +kernel
theorem dX0_copy_20 : decode cX0_copy 20 = .ok (.iconst 0, 1) := by decide +kernel
theorem dX0_copy_21 : decode cX0_copy 21 = .ok (.bipush 120, 2) := by decide +kernel
theorem dX0_copy_23 : decode cX0_copy 23 = .ok (.invokestatic 71, 3) := by decide +kernel
theorem dX0_copy_26 : decode cX0_copy 26 = .ok (.aload_n 0, 1) := by decide +kernel
theorem dX0_copy_27 : decode cX0_copy 27 = .ok (.aload_n 1, 1) := by decide +kernel
theorem dX0_copy_28 : decode cX0_copy 28 = .ok (.getfield 51, 3) := by decide +kernel
theorem dX0_copy_31 : decode cX0_copy 31 = .ok (.putfield 51, 3) := by decide +kernel
theorem dX0_copy_34 : decode cX0_copy 34 = .ok (.aload_n 0, 1) := by decide +kernel
theorem dX0_copy_35 : decode cX0_copy 35 = .ok (.aload_n 1, 1) := by decide +kernel
theorem dX0_copy_36 : decode cX0_copy 36 = .ok (.invokevirtual 77, 3) := by decide +kernel
theorem dX0_copy_39 : decode cX0_copy 39 = .ok (.return_, 1) := by decide +kernel
theorem dX0_rewind_0 : decode cX0_rewind 0 = .ok (.aload_n 0, 1) := by decide +kernel
theorem dX0_rewind_1 : decode cX0_rewind 1 = .ok (.getfield 21, 3) := by decide +kernel
theorem dX0_rewind_4 : decode cX0_rewind 4 = .ok (.aload_n 1, 1) := by decide +kernel
theorem dX0_rewind_5 : decode cX0_rewind 5 = .ok (.getfield 21, 3) := by decide +kernel
theorem dX0_rewind_8 : decode cX0_rewind 8 = .ok (.invokevirtual 81, 3) := by decide +kernel
theorem dX0_rewind_11 : decode cX0_rewind 11 = .ok (.aload_n 1, 1) := by decide +kernel
theorem dX0_rewind_12 : decode cX0_rewind 12 = .ok (.getfield 25, 3) := by decide +kernel
theorem dX0_rewind_15 : decode cX0_rewind 15 = .ok (.iconst 0, 1) := by decide +kernel
theorem dX0_rewind_16 : decode cX0_rewind 16 = .ok (.aload_n 0, 1) := by decide +kernel
theorem dX0_rewind_17 : decode cX0_rewind 17 = .ok (.getfield 25, 3) := by decide +kernel
theorem dX0_rewind_20 : decode cX0_rewind 20 = .ok (.iconst 0, 1) := by decide +kernel
theorem dX0_rewind_21 : decode cX0_rewind 21 = .ok (.bipush 80, 2) := by decide +kernel
theorem dX0_rewind_23 : decode cX0_rewind 23 = .ok (.invokestatic 71, 3) := by decide +kernel
theorem dX0_rewind_26 : decode cX0_rewind 26 = .ok (.aload_n 0, 1) := by decide +kernel
theorem dX0_rewind_27 : decode cX0_rewind 27 = .ok (.aload_n 1, 1) := by decide +kernel
theorem dX0_rewind_28 : decode cX0_rewind 28 = .ok (.getfield 32, 3) := by decide +kernel
theorem dX0_rewind_31 : decode cX0_rewind 31 = .ok (.putfield 32, 3) := by decide +kernel
theorem dX0_rewind_34 : decode cX0_rewind 34 = .ok (.aload_n 0, 1) := by decide +kernel
theorem dX0_rewind_35 : decode cX0_rewind 35 = .ok (.aload_n 1, 1) := by decide +kernel
theorem dX0_rewind_36 : decode cX0_rewind 36 = .ok (.getfield 36, 3) := by decide +kernel
theorem dX0_rewind_39 : decode cX0_rewind 39 = .ok (.putfield 36, 3) := by decide +kernel
theorem dX0_rewind_42 : decode cX0_rewind 42 = .ok (.aload_n 0, 1) := by decide +kernel
theorem dX0_rewind_43 : decode cX0_rewind 43 = .ok (.aload_n 1, 1) := by decide +kernel
theorem dX0_rewind_44 : decode cX0_rewind 44 = .ok (.getfield 39, 3) := by decide +kernel
theorem dX0_rewind_47 : decode cX0_rewind 47 = .ok (.putfield 39, 3) := by decide +kernel
theorem dX0_rewind_50 : decode cX0_rewind 50 = .ok (.aload_n 0, 1) := by decide +kernel
theorem dX0_rewind_51 : decode cX0_rewind 51 = .ok (.aload_n 1, 1) := by decide +kernel
theorem dX0_rewind_52 : decode cX0_rewind 52 = .ok (.getfield 42, 3) := by decide +kernel
theorem dX0_rewind_55 : decode cX0_rewind 55 = .ok (.putfield 42, 3) := by decide +kernel
theorem dX0_rewind_58 : decode cX0_rewind 58 = .ok (.aload_n 0, 1) := by decide +kernel
theorem dX0_rewind_59 : decode cX0_rewind 59 = .ok (.aload_n 1, 1) := by decide +kernel
theorem dX0_rewind_60 : decode cX0_rewind 60 = .ok (.getfield 45, 3) := by decide +kernel
theorem dX0_rewind_63 : decode cX0_rewind 63 = .ok (.putfield 45, 3) := by decide +kernel
theorem dX0_rewind_66 : decode cX0_rewind 66 = .ok (.aload_n 0, 1) := by decide +kernel
theorem dX0_rewind_67 : decode cX0_rewind 67 = .ok (.aload_n 1, 1) := by decide +kernel
theorem dX0_rewind_68 : decode cX0_rewind 68 = .ok (.getfield 48, 3) := by decide +kernel
theorem dX0_rewind_71 : decode cX0_rewind 71 = .ok (.putfield 48, 3) := by decide +kernel
theorem dX0_rewind_74 : decode cX0_rewind 74 = .ok (.return_, 1) := by decide +kernel
theorem dX0_pass_0 : decode cX0_pass 0 = .ok (.iconst 0, 1) := by decide +kernel
theorem dX0_pass_1 : decode cX0_pass 1 = .ok (.istore_n 3, 1) := by decide +kernel
theorem dX0_pass_2 : decode cX0_pass 2 = .ok (.iload_n 3, 1) := by decide +kernel
theorem dX0_pass_3 : decode cX0_pass 3 = .ok (.iload_n 2, 1) := by decide +kernel
theorem dX0_pass_4 : decode cX0_pass 4 = .ok (.if_icmp .ge 14, 3) := by decide +kernel
theorem dX0_pass_7 : decode cX0_pass 7 = .ok (.aload_n 0, 1) := by decide +kernel
theorem dX0_pass_8 : decode cX0_pass 8 = .ok (.aload_n 1, 1) := by decide +kernel
theorem dX0_pass_9 : decode cX0_pass 9 = .ok (.invokevirtual 84, 3) := by decide +kernel
theorem dX0_pass_12 : decode cX0_pass 12 = .ok (.iinc 3 1, 3) := by decide +kernel
theorem dX0_pass_15 : decode cX0_pass 15 = .ok (.goto (-13), 3) := by decide +kernel
theorem dX0_pass_18 : decode cX0_pass 18 = .ok (.return_, 1) := by decide +kernel
theorem dX0_endsOn_0 : decode cX0_endsOn 0 = .ok (.iload_n 2, 1) := by decide +kernel
theorem dX0_endsOn_1 : decode cX0_endsOn 1 = .ok (.istore 4, 2) := by decide +kernel
theorem dX0_endsOn_3 : decode cX0_endsOn 3 = .ok (.iload 4, 2) := by decide +kernel
theorem dX0_endsOn_5 : decode cX0_endsOn 5 = .ok (.ifCond .le 33, 3) := by decide +kernel
theorem dX0_endsOn_8 : decode cX0_endsOn 8 = .ok (.aload_n 0, 1) := by decide +kernel
theorem dX0_endsOn_9 : decode cX0_endsOn 9 = .ok (.getfield 12, 3) := by decide +kernel
theorem dX0_endsOn_12 : decode cX0_endsOn 12 = .ok (.aload_n 0, 1) := by decide +kernel
theorem dX0_endsOn_13 : decode cX0_endsOn 13 = .ok (.getfield 32, 3) := by decide +kernel
theorem dX0_endsOn_16 : decode cX0_endsOn 16 = .ok (.iload_n 3, 1) := by decide +kernel
theorem dX0_endsOn_17 : decode cX0_endsOn 17 = .ok (.invokevirtual 88, 3) := by decide +kernel
theorem dX0_endsOn_20 : decode cX0_endsOn 20 = .ok (.iload 4, 2) := by decide +kernel
theorem dX0_endsOn_22 : decode cX0_endsOn 22 = .ok (.if_icmp .le 5, 3) := by decide +kernel
theorem dX0_endsOn_25 : decode cX0_endsOn 25 = .ok (.iconst 0, 1) := by decide +kernel
theorem dX0_endsOn_26 : decode cX0_endsOn 26 = .ok (.ireturn, 1) := by decide +kernel
theorem dX0_endsOn_27 : decode cX0_endsOn 27 = .ok (.aload_n 0, 1) := by decide +kernel
theorem dX0_endsOn_28 : decode cX0_endsOn 28 = .ok (.aload_n 1, 1) := by decide +kernel
theorem dX0_endsOn_29 : decode cX0_endsOn 29 = .ok (.invokevirtual 84, 3) := by decide +kernel
theorem dX0_endsOn_32 : decode cX0_endsOn 32 = .ok (.iinc 4 (-1), 3) := by decide +kernel
theorem dX0_endsOn_35 : decode cX0_endsOn 35 = .ok (.goto (-32), 3) := by decide +kernel
theorem dX0_endsOn_38 : decode cX0_endsOn 38 = .ok (.aload_n 0, 1) := by decide +kernel
theorem dX0_endsOn_39 : decode cX0_endsOn 39 = .ok (.getfield 32, 3) := by decide +kernel
theorem dX0_endsOn_42 : decode cX0_endsOn 42 = .ok (.iload_n 3, 1) := by decide +kernel
theorem dX0_endsOn_43 : decode cX0_endsOn 43 = .ok (.if_icmp .ne 7, 3) := by decide +kernel
theorem dX0_endsOn_46 : decode cX0_endsOn 46 = .ok (.iconst 1, 1) := by decide +kernel
theorem dX0_endsOn_47 : decode cX0_endsOn 47 = .ok (.goto 4, 3) := by decide +kernel
theorem dX0_endsOn_50 : decode cX0_endsOn 50 = .ok (.iconst 0, 1) := by decide +kernel
theorem dX0_endsOn_51 : decode cX0_endsOn 51 = .ok (.ireturn, 1) := by decide +kernel
theorem dX0_minute_0 : decode cX0_minute 0 = .ok (.aload_n 0, 1) := by decide +kernel
theorem dX0_minute_1 : decode cX0_minute 1 = .ok (.getfield 32, 3) := by decide +kernel
theorem dX0_minute_4 : decode cX0_minute 4 = .ok (.ifCond .lt 17, 3) := by decide +kernel
theorem dX0_minute_7 : decode cX0_minute 7 = .ok (.aload_n 0, 1) := by decide +kernel
theorem dX0_minute_8 : decode cX0_minute 8 = .ok (.getfield 32, 3) := by decide +kernel
theorem dX0_minute_11 : decode cX0_minute 11 = .ok (.aload_n 0, 1) := by decide +kernel
theorem dX0_minute_12 : decode cX0_minute 12 = .ok (.getfield 12, 3) := by decide +kernel
theorem dX0_minute_15 : decode cX0_minute 15 = .ok (.getfield 92, 3) := by decide +kernel
theorem dX0_minute_18 : decode cX0_minute 18 = .ok (.if_icmp .lt 4, 3) := by decide +kernel
theorem dX0_minute_21 : decode cX0_minute 21 = .ok (.return_, 1) := by decide +kernel
theorem dX0_minute_22 : decode cX0_minute 22 = .ok (.aload_n 0, 1) := by decide +kernel
theorem dX0_minute_23 : decode cX0_minute 23 = .ok (.invokevirtual 95, 3) := by decide +kernel
theorem dX0_minute_26 : decode cX0_minute 26 = .ok (.aload_n 0, 1) := by decide +kernel
theorem dX0_minute_27 : decode cX0_minute 27 = .ok (.invokevirtual 98, 3) := by decide +kernel
theorem dX0_minute_30 : decode cX0_minute 30 = .ok (.aload_n 0, 1) := by decide +kernel
theorem dX0_minute_31 : decode cX0_minute 31 = .ok (.invokevirtual 101, 3) := by decide +kernel
theorem dX0_minute_34 : decode cX0_minute 34 = .ok (.aload_n 0, 1) := by decide +kernel
theorem dX0_minute_35 : decode cX0_minute 35 = .ok (.invokevirtual 104, 3) := by decide +kernel
theorem dX0_minute_38 : decode cX0_minute 38 = .ok (.aload_n 0, 1) := by decide +kernel
theorem dX0_minute_39 : decode cX0_minute 39 = .ok (.aload_n 1, 1) := by decide +kernel
theorem dX0_minute_40 : decode cX0_minute 40 = .ok (.invokevirtual 107, 3) := by decide +kernel
theorem dX0_minute_43 : decode cX0_minute 43 = .ok (.aload_n 0, 1) := by decide +kernel
theorem dX0_minute_44 : decode cX0_minute 44 = .ok (.getfield 54, 3) := by decide +kernel
theorem dX0_minute_47 : decode cX0_minute 47 = .ok (.aload_n 0, 1) := by decide +kernel
theorem dX0_minute_48 : decode cX0_minute 48 = .ok (.getfield 39, 3) := by decide +kernel
theorem dX0_minute_51 : decode cX0_minute 51 = .ok (.bipush 120, 2) := by decide +kernel
theorem dX0_minute_53 : decode cX0_minute 53 = .ok (.irem, 1) := by decide +kernel
theorem dX0_minute_54 : decode cX0_minute 54 = .ok (.aload_n 0, 1) := by decide +kernel
theorem dX0_minute_55 : decode cX0_minute 55 = .ok (.getfield 32, 3) := by decide +kernel
theorem dX0_minute_58 : decode cX0_minute 58 = .ok (.iastore, 1) := by decide +kernel
theorem dX0_minute_59 : decode cX0_minute 59 = .ok (.aload_n 0, 1) := by decide +kernel
theorem dX0_minute_60 : decode cX0_minute 60 = .ok (.dup, 1) := by decide +kernel
theorem dX0_minute_61 : decode cX0_minute 61 = .ok (.getfield 39, 3) := by decide +kernel
theorem dX0_minute_64 : decode cX0_minute 64 = .ok (.iconst 1, 1) := by decide +kernel
theorem dX0_minute_65 : decode cX0_minute 65 = .ok (.iadd, 1) := by decide +kernel
theorem dX0_minute_66 : decode cX0_minute 66 = .ok (.putfield 39, 3) := by decide +kernel
theorem dX0_minute_69 : decode cX0_minute 69 = .ok (.aload_n 0, 1) := by decide +kernel
theorem dX0_minute_70 : decode cX0_minute 70 = .ok (.getfield 21, 3) := by decide +kernel
theorem dX0_minute_73 : decode cX0_minute 73 = .ok (.getfield 110, 3) := by decide +kernel
theorem dX0_minute_76 : decode cX0_minute 76 = .ok (.aload_n 0, 1) := by decide +kernel
theorem dX0_minute_77 : decode cX0_minute 77 = .ok (.getfield 32, 3) := by decide +kernel
theorem dX0_minute_80 : decode cX0_minute 80 = .ok (.iaload, 1) := by decide +kernel
theorem dX0_minute_81 : decode cX0_minute 81 = .ok (.istore_n 2, 1) := by decide +kernel
theorem dX0_minute_82 : decode cX0_minute 82 = .ok (.iload_n 2, 1) := by decide +kernel
theorem dX0_minute_83 : decode cX0_minute 83 = .ok (.ifCond .lt 16, 3) := by decide +kernel
theorem dX0_minute_86 : decode cX0_minute 86 = .ok (.aload_n 0, 1) := by decide +kernel
theorem dX0_minute_87 : decode cX0_minute 87 = .ok (.getfield 21, 3) := by decide +kernel
theorem dX0_minute_90 : decode cX0_minute 90 = .ok (.getfield 113, 3) := by decide +kernel
theorem dX0_minute_93 : decode cX0_minute 93 = .ok (.iload_n 2, 1) := by decide +kernel
theorem dX0_minute_94 : decode cX0_minute 94 = .ok (.dup2, 1) := by decide +kernel
theorem dX0_minute_95 : decode cX0_minute 95 = .ok (.iaload, 1) := by decide +kernel
theorem dX0_minute_96 : decode cX0_minute 96 = .ok (.iconst 1, 1) := by decide +kernel
theorem dX0_minute_97 : decode cX0_minute 97 = .ok (.iadd, 1) := by decide +kernel
theorem dX0_minute_98 : decode cX0_minute 98 = .ok (.iastore, 1) := by decide +kernel
theorem dX0_minute_99 : decode cX0_minute 99 = .ok (.return_, 1) := by decide +kernel
theorem dX0_warmUp_0 : decode cX0_warmUp 0 = .ok (.iconst 0, 1) := by decide +kernel
theorem dX0_warmUp_1 : decode cX0_warmUp 1 = .ok (.istore_n 1, 1) := by decide +kernel
theorem dX0_warmUp_2 : decode cX0_warmUp 2 = .ok (.iload_n 1, 1) := by decide +kernel
theorem dX0_warmUp_3 : decode cX0_warmUp 3 = .ok (.aload_n 0, 1) := by decide +kernel
theorem dX0_warmUp_4 : decode cX0_warmUp 4 = .ok (.getfield 21, 3) := by decide +kernel
theorem dX0_warmUp_7 : decode cX0_warmUp 7 = .ok (.getfield 116, 3) := by decide +kernel
theorem dX0_warmUp_10 : decode cX0_warmUp 10 = .ok (.if_icmp .ge 59, 3) := by decide +kernel
theorem dX0_warmUp_13 : decode cX0_warmUp 13 = .ok (.aload_n 0, 1) := by decide +kernel
theorem dX0_warmUp_14 : decode cX0_warmUp 14 = .ok (.getfield 21, 3) := by decide +kernel
theorem dX0_warmUp_17 : decode cX0_warmUp 17 = .ok (.getfield 119, 3) := by decide +kernel
theorem dX0_warmUp_20 : decode cX0_warmUp 20 = .ok (.iload_n 1, 1) := by decide +kernel
theorem dX0_warmUp_21 : decode cX0_warmUp 21 = .ok (.iaload, 1) := by decide +kernel
theorem dX0_warmUp_22 : decode cX0_warmUp 22 = .ok (.istore_n 2, 1) := by decide +kernel
theorem dX0_warmUp_23 : decode cX0_warmUp 23 = .ok (.iload_n 2, 1) := by decide +kernel
theorem dX0_warmUp_24 : decode cX0_warmUp 24 = .ok (.ifCond .lt 39, 3) := by decide +kernel
theorem dX0_warmUp_27 : decode cX0_warmUp 27 = .ok (.aload_n 0, 1) := by decide +kernel
theorem dX0_warmUp_28 : decode cX0_warmUp 28 = .ok (.getfield 25, 3) := by decide +kernel
theorem dX0_warmUp_31 : decode cX0_warmUp 31 = .ok (.iload_n 2, 1) := by decide +kernel
theorem dX0_warmUp_32 : decode cX0_warmUp 32 = .ok (.dup2, 1) := by decide +kernel
theorem dX0_warmUp_33 : decode cX0_warmUp 33 = .ok (.iaload, 1) := by decide +kernel
theorem dX0_warmUp_34 : decode cX0_warmUp 34 = .ok (.aload_n 0, 1) := by decide +kernel
theorem dX0_warmUp_35 : decode cX0_warmUp 35 = .ok (.getfield 21, 3) := by decide +kernel
theorem dX0_warmUp_38 : decode cX0_warmUp 38 = .ok (.getfield 121, 3) := by decide +kernel
theorem dX0_warmUp_41 : decode cX0_warmUp 41 = .ok (.iload_n 1, 1) := by decide +kernel
theorem dX0_warmUp_42 : decode cX0_warmUp 42 = .ok (.iaload, 1) := by decide +kernel
theorem dX0_warmUp_43 : decode cX0_warmUp 43 = .ok (.iadd, 1) := by decide +kernel
theorem dX0_warmUp_44 : decode cX0_warmUp 44 = .ok (.iastore, 1) := by decide +kernel
theorem dX0_warmUp_45 : decode cX0_warmUp 45 = .ok (.aload_n 0, 1) := by decide +kernel
theorem dX0_warmUp_46 : decode cX0_warmUp 46 = .ok (.dup, 1) := by decide +kernel
theorem dX0_warmUp_47 : decode cX0_warmUp 47 = .ok (.getfield 48, 3) := by decide +kernel
theorem dX0_warmUp_50 : decode cX0_warmUp 50 = .ok (.aload_n 0, 1) := by decide +kernel
theorem dX0_warmUp_51 : decode cX0_warmUp 51 = .ok (.getfield 21, 3) := by decide +kernel
theorem dX0_warmUp_54 : decode cX0_warmUp 54 = .ok (.getfield 121, 3) := by decide +kernel
theorem dX0_warmUp_57 : decode cX0_warmUp 57 = .ok (.iload_n 1, 1) := by decide +kernel
theorem dX0_warmUp_58 : decode cX0_warmUp 58 = .ok (.iaload, 1) := by decide +kernel
theorem dX0_warmUp_59 : decode cX0_warmUp 59 = .ok (.iadd, 1) := by decide +kernel
theorem dX0_warmUp_60 : decode cX0_warmUp 60 = .ok (.putfield 48, 3) := by decide +kernel
theorem dX0_warmUp_63 : decode cX0_warmUp 63 = .ok (.iinc 1 1, 3) := by decide +kernel
theorem dX0_warmUp_66 : decode cX0_warmUp 66 = .ok (.goto (-64), 3) := by decide +kernel
theorem dX0_warmUp_69 : decode cX0_warmUp 69 = .ok (.return_, 1) := by decide +kernel
theorem dX0_blow_0 : decode cX0_blow 0 = .ok (.iconst 0, 1) := by decide +kernel
theorem dX0_blow_1 : decode cX0_blow 1 = .ok (.istore_n 1, 1) := by decide +kernel
theorem dX0_blow_2 : decode cX0_blow 2 = .ok (.iload_n 1, 1) := by decide +kernel
theorem dX0_blow_3 : decode cX0_blow 3 = .ok (.aload_n 0, 1) := by decide +kernel
theorem dX0_blow_4 : decode cX0_blow 4 = .ok (.getfield 12, 3) := by decide +kernel
theorem dX0_blow_7 : decode cX0_blow 7 = .ok (.getfield 124, 3) := by decide +kernel
theorem dX0_blow_10 : decode cX0_blow 10 = .ok (.if_icmp .ge 100, 3) := by decide +kernel
theorem dX0_blow_13 : decode cX0_blow 13 = .ok (.aload_n 0, 1) := by decide +kernel
theorem dX0_blow_14 : decode cX0_blow 14 = .ok (.getfield 12, 3) := by decide +kernel
theorem dX0_blow_17 : decode cX0_blow 17 = .ok (.getfield 127, 3) := by decide +kernel
theorem dX0_blow_20 : decode cX0_blow 20 = .ok (.iload_n 1, 1) := by decide +kernel
theorem dX0_blow_21 : decode cX0_blow 21 = .ok (.iaload, 1) := by decide +kernel
theorem dX0_blow_22 : decode cX0_blow 22 = .ok (.istore_n 2, 1) := by decide +kernel
theorem dX0_blow_23 : decode cX0_blow 23 = .ok (.aload_n 0, 1) := by decide +kernel
theorem dX0_blow_24 : decode cX0_blow 24 = .ok (.getfield 25, 3) := by decide +kernel
theorem dX0_blow_27 : decode cX0_blow 27 = .ok (.iload_n 2, 1) := by decide +kernel
theorem dX0_blow_28 : decode cX0_blow 28 = .ok (.iaload, 1) := by decide +kernel
theorem dX0_blow_29 : decode cX0_blow 29 = .ok (.aload_n 0, 1) := by decide +kernel
theorem dX0_blow_30 : decode cX0_blow 30 = .ok (.getfield 12, 3) := by decide +kernel
theorem dX0_blow_33 : decode cX0_blow 33 = .ok (.getfield 130, 3) := by decide +kernel
theorem dX0_blow_36 : decode cX0_blow 36 = .ok (.iload_n 1, 1) := by decide +kernel
theorem dX0_blow_37 : decode cX0_blow 37 = .ok (.iaload, 1) := by decide +kernel
theorem dX0_blow_38 : decode cX0_blow 38 = .ok (.invokestatic 133, 3) := by decide +kernel
theorem dX0_blow_41 : decode cX0_blow 41 = .ok (.istore_n 3, 1) := by decide +kernel
theorem dX0_blow_42 : decode cX0_blow 42 = .ok (.aload_n 0, 1) := by decide +kernel
theorem dX0_blow_43 : decode cX0_blow 43 = .ok (.getfield 12, 3) := by decide +kernel
theorem dX0_blow_46 : decode cX0_blow 46 = .ok (.getfield 138, 3) := by decide +kernel
theorem dX0_blow_49 : decode cX0_blow 49 = .ok (.iload_n 2, 1) := by decide +kernel
theorem dX0_blow_50 : decode cX0_blow 50 = .ok (.iconst 5, 1) := by decide +kernel
theorem dX0_blow_51 : decode cX0_blow 51 = .ok (.imul, 1) := by decide +kernel
theorem dX0_blow_52 : decode cX0_blow 52 = .ok (.aload_n 0, 1) := by decide +kernel
theorem dX0_blow_53 : decode cX0_blow 53 = .ok (.getfield 12, 3) := by decide +kernel
theorem dX0_blow_56 : decode cX0_blow 56 = .ok (.getfield 141, 3) := by decide +kernel
theorem dX0_blow_59 : decode cX0_blow 59 = .ok (.iload_n 1, 1) := by decide +kernel
theorem dX0_blow_60 : decode cX0_blow 60 = .ok (.iaload, 1) := by decide +kernel
theorem dX0_blow_61 : decode cX0_blow 61 = .ok (.iadd, 1) := by decide +kernel
theorem dX0_blow_62 : decode cX0_blow 62 = .ok (.iaload, 1) := by decide +kernel
theorem dX0_blow_63 : decode cX0_blow 63 = .ok (.istore 4, 2) := by decide +kernel
theorem dX0_blow_65 : decode cX0_blow 65 = .ok (.aload_n 0, 1) := by decide +kernel
theorem dX0_blow_66 : decode cX0_blow 66 = .ok (.getfield 25, 3) := by decide +kernel
theorem dX0_blow_69 : decode cX0_blow 69 = .ok (.iload_n 2, 1) := by decide +kernel
theorem dX0_blow_70 : decode cX0_blow 70 = .ok (.dup2, 1) := by decide +kernel
theorem dX0_blow_71 : decode cX0_blow 71 = .ok (.iaload, 1) := by decide +kernel
theorem dX0_blow_72 : decode cX0_blow 72 = .ok (.iload_n 3, 1) := by decide +kernel
theorem dX0_blow_73 : decode cX0_blow 73 = .ok (.isub, 1) := by decide +kernel
theorem dX0_blow_74 : decode cX0_blow 74 = .ok (.iastore, 1) := by decide +kernel
theorem dX0_blow_75 : decode cX0_blow 75 = .ok (.iload 4, 2) := by decide +kernel
theorem dX0_blow_77 : decode cX0_blow 77 = .ok (.ifCond .lt 17, 3) := by decide +kernel
theorem dX0_blow_80 : decode cX0_blow 80 = .ok (.aload_n 0, 1) := by decide +kernel
theorem dX0_blow_81 : decode cX0_blow 81 = .ok (.getfield 25, 3) := by decide +kernel
theorem dX0_blow_84 : decode cX0_blow 84 = .ok (.iload 4, 2) := by decide +kernel
theorem dX0_blow_86 : decode cX0_blow 86 = .ok (.dup2, 1) := by decide +kernel
theorem dX0_blow_87 : decode cX0_blow 87 = .ok (.iaload, 1) := by decide +kernel
theorem dX0_blow_88 : decode cX0_blow 88 = .ok (.iload_n 3, 1) := by decide +kernel
theorem dX0_blow_89 : decode cX0_blow 89 = .ok (.iadd, 1) := by decide +kernel
theorem dX0_blow_90 : decode cX0_blow 90 = .ok (.iastore, 1) := by decide +kernel
theorem dX0_blow_91 : decode cX0_blow 91 = .ok (.goto 13, 3) := by decide +kernel
theorem dX0_blow_94 : decode cX0_blow 94 = .ok (.aload_n 0, 1) := by decide +kernel
theorem dX0_blow_95 : decode cX0_blow 95 = .ok (.dup, 1) := by decide +kernel
theorem dX0_blow_96 : decode cX0_blow 96 = .ok (.getfield 42, 3) := by decide +kernel
theorem dX0_blow_99 : decode cX0_blow 99 = .ok (.iload_n 3, 1) := by decide +kernel
theorem dX0_blow_100 : decode cX0_blow 100 = .ok (.iadd, 1) := by decide +kernel
theorem dX0_blow_101 : decode cX0_blow 101 = .ok (.putfield 42, 3) := by decide +kernel
theorem dX0_blow_104 : decode cX0_blow 104 = .ok (.iinc 1 1, 3) := by decide +kernel
theorem dX0_blow_107 : decode cX0_blow 107 = .ok (.goto (-105), 3) := by decide +kernel
theorem dX0_blow_110 : decode cX0_blow 110 = .ok (.return_, 1) := by decide +kernel
theorem dX0_melt_0 : decode cX0_melt 0 = .ok (.iconst 0, 1) := by decide +kernel
theorem dX0_melt_1 : decode cX0_melt 1 = .ok (.istore_n 1, 1) := by decide +kernel
theorem dX0_melt_2 : decode cX0_melt 2 = .ok (.iload_n 1, 1) := by decide +kernel
theorem dX0_melt_3 : decode cX0_melt 3 = .ok (.aload_n 0, 1) := by decide +kernel
theorem dX0_melt_4 : decode cX0_melt 4 = .ok (.getfield 12, 3) := by decide +kernel
theorem dX0_melt_7 : decode cX0_melt 7 = .ok (.getfield 144, 3) := by decide +kernel
theorem dX0_melt_10 : decode cX0_melt 10 = .ok (.if_icmp .ge 58, 3) := by decide +kernel
theorem dX0_melt_13 : decode cX0_melt 13 = .ok (.aload_n 0, 1) := by decide +kernel
theorem dX0_melt_14 : decode cX0_melt 14 = .ok (.getfield 12, 3) := by decide +kernel
theorem dX0_melt_17 : decode cX0_melt 17 = .ok (.getfield 147, 3) := by decide +kernel
theorem dX0_melt_20 : decode cX0_melt 20 = .ok (.iload_n 1, 1) := by decide +kernel
theorem dX0_melt_21 : decode cX0_melt 21 = .ok (.iaload, 1) := by decide +kernel
theorem dX0_melt_22 : decode cX0_melt 22 = .ok (.istore_n 2, 1) := by decide +kernel
theorem dX0_melt_23 : decode cX0_melt 23 = .ok (.aload_n 0, 1) := by decide +kernel
theorem dX0_melt_24 : decode cX0_melt 24 = .ok (.getfield 25, 3) := by decide +kernel
theorem dX0_melt_27 : decode cX0_melt 27 = .ok (.iload_n 2, 1) := by decide +kernel
theorem dX0_melt_28 : decode cX0_melt 28 = .ok (.iaload, 1) := by decide +kernel
theorem dX0_melt_29 : decode cX0_melt 29 = .ok (.aload_n 0, 1) := by decide +kernel
theorem dX0_melt_30 : decode cX0_melt 30 = .ok (.getfield 12, 3) := by decide +kernel
theorem dX0_melt_33 : decode cX0_melt 33 = .ok (.getfield 150, 3) := by decide +kernel
theorem dX0_melt_36 : decode cX0_melt 36 = .ok (.iload_n 1, 1) := by decide +kernel
theorem dX0_melt_37 : decode cX0_melt 37 = .ok (.iaload, 1) := by decide +kernel
theorem dX0_melt_38 : decode cX0_melt 38 = .ok (.invokestatic 133, 3) := by decide +kernel
theorem dX0_melt_41 : decode cX0_melt 41 = .ok (.istore_n 3, 1) := by decide +kernel
theorem dX0_melt_42 : decode cX0_melt 42 = .ok (.aload_n 0, 1) := by decide +kernel
theorem dX0_melt_43 : decode cX0_melt 43 = .ok (.getfield 25, 3) := by decide +kernel
theorem dX0_melt_46 : decode cX0_melt 46 = .ok (.iload_n 2, 1) := by decide +kernel
theorem dX0_melt_47 : decode cX0_melt 47 = .ok (.dup2, 1) := by decide +kernel
theorem dX0_melt_48 : decode cX0_melt 48 = .ok (.iaload, 1) := by decide +kernel
theorem dX0_melt_49 : decode cX0_melt 49 = .ok (.iload_n 3, 1) := by decide +kernel
theorem dX0_melt_50 : decode cX0_melt 50 = .ok (.isub, 1) := by decide +kernel
theorem dX0_melt_51 : decode cX0_melt 51 = .ok (.iastore, 1) := by decide +kernel
theorem dX0_melt_52 : decode cX0_melt 52 = .ok (.aload_n 0, 1) := by decide +kernel
theorem dX0_melt_53 : decode cX0_melt 53 = .ok (.dup, 1) := by decide +kernel
theorem dX0_melt_54 : decode cX0_melt 54 = .ok (.getfield 45, 3) := by decide +kernel
theorem dX0_melt_57 : decode cX0_melt 57 = .ok (.iload_n 3, 1) := by decide +kernel
theorem dX0_melt_58 : decode cX0_melt 58 = .ok (.iadd, 1) := by decide +kernel
theorem dX0_melt_59 : decode cX0_melt 59 = .ok (.putfield 45, 3) := by decide +kernel
theorem dX0_melt_62 : decode cX0_melt 62 = .ok (.iinc 1 1, 3) := by decide +kernel
theorem dX0_melt_65 : decode cX0_melt 65 = .ok (.goto (-63), 3) := by decide +kernel
theorem dX0_melt_68 : decode cX0_melt 68 = .ok (.return_, 1) := by decide +kernel
theorem dX0_spread_0 : decode cX0_spread 0 = .ok (.iconst 0, 1) := by decide +kernel
theorem dX0_spread_1 : decode cX0_spread 1 = .ok (.istore_n 1, 1) := by decide +kernel
theorem dX0_spread_2 : decode cX0_spread 2 = .ok (.iload_n 1, 1) := by decide +kernel
theorem dX0_spread_3 : decode cX0_spread 3 = .ok (.aload_n 0, 1) := by decide +kernel
theorem dX0_spread_4 : decode cX0_spread 4 = .ok (.getfield 12, 3) := by decide +kernel
theorem dX0_spread_7 : decode cX0_spread 7 = .ok (.getfield 92, 3) := by decide +kernel
theorem dX0_spread_10 : decode cX0_spread 10 = .ok (.if_icmp .ge 24, 3) := by decide +kernel
theorem dX0_spread_13 : decode cX0_spread 13 = .ok (.aload_n 0, 1) := by decide +kernel
theorem dX0_spread_14 : decode cX0_spread 14 = .ok (.getfield 29, 3) := by decide +kernel
theorem dX0_spread_17 : decode cX0_spread 17 = .ok (.iload_n 1, 1) := by decide +kernel
theorem dX0_spread_18 : decode cX0_spread 18 = .ok (.aload_n 0, 1) := by decide +kernel
theorem dX0_spread_19 : decode cX0_spread 19 = .ok (.getfield 25, 3) := by decide +kernel
theorem dX0_spread_22 : decode cX0_spread 22 = .ok (.iload_n 1, 1) := by decide +kernel
theorem dX0_spread_23 : decode cX0_spread 23 = .ok (.iaload, 1) := by decide +kernel
theorem dX0_spread_24 : decode cX0_spread 24 = .ok (.bipush 8, 2) := by decide +kernel
theorem dX0_spread_26 : decode cX0_spread 26 = .ok (.idiv, 1) := by decide +kernel
theorem dX0_spread_27 : decode cX0_spread 27 = .ok (.iastore, 1) := by decide +kernel
theorem dX0_spread_28 : decode cX0_spread 28 = .ok (.iinc 1 1, 3) := by decide +kernel
theorem dX0_spread_31 : decode cX0_spread 31 = .ok (.goto (-29), 3) := by decide +kernel
theorem dX0_spread_34 : decode cX0_spread 34 = .ok (.iconst 0, 1) := by decide +kernel
theorem dX0_spread_35 : decode cX0_spread 35 = .ok (.istore_n 1, 1) := by decide +kernel
theorem dX0_spread_36 : decode cX0_spread 36 = .ok (.iload_n 1, 1) := by decide +kernel
theorem dX0_spread_37 : decode cX0_spread 37 = .ok (.aload_n 0, 1) := by decide +kernel
theorem dX0_spread_38 : decode cX0_spread 38 = .ok (.getfield 12, 3) := by decide +kernel
theorem dX0_spread_41 : decode cX0_spread 41 = .ok (.getfield 92, 3) := by decide +kernel
theorem dX0_spread_44 : decode cX0_spread 44 = .ok (.if_icmp .ge 74, 3) := by decide +kernel
theorem dX0_spread_47 : decode cX0_spread 47 = .ok (.aload_n 0, 1) := by decide +kernel
theorem dX0_spread_48 : decode cX0_spread 48 = .ok (.getfield 29, 3) := by decide +kernel
theorem dX0_spread_51 : decode cX0_spread 51 = .ok (.iload_n 1, 1) := by decide +kernel
theorem dX0_spread_52 : decode cX0_spread 52 = .ok (.iaload, 1) := by decide +kernel
theorem dX0_spread_53 : decode cX0_spread 53 = .ok (.istore_n 2, 1) := by decide +kernel
theorem dX0_spread_54 : decode cX0_spread 54 = .ok (.iconst 1, 1) := by decide +kernel
theorem dX0_spread_55 : decode cX0_spread 55 = .ok (.istore_n 3, 1) := by decide +kernel
theorem dX0_spread_56 : decode cX0_spread 56 = .ok (.iload_n 3, 1) := by decide +kernel
theorem dX0_spread_57 : decode cX0_spread 57 = .ok (.iconst 5, 1) := by decide +kernel
theorem dX0_spread_58 : decode cX0_spread 58 = .ok (.if_icmp .ge 54, 3) := by decide +kernel
theorem dX0_spread_61 : decode cX0_spread 61 = .ok (.iload_n 2, 1) := by decide +kernel
theorem dX0_spread_62 : decode cX0_spread 62 = .ok (.ifCond .le 50, 3) := by decide +kernel
theorem dX0_spread_65 : decode cX0_spread 65 = .ok (.aload_n 0, 1) := by decide +kernel
theorem dX0_spread_66 : decode cX0_spread 66 = .ok (.getfield 12, 3) := by decide +kernel
theorem dX0_spread_69 : decode cX0_spread 69 = .ok (.getfield 138, 3) := by decide +kernel
theorem dX0_spread_72 : decode cX0_spread 72 = .ok (.iload_n 1, 1) := by decide +kernel
theorem dX0_spread_73 : decode cX0_spread 73 = .ok (.iconst 5, 1) := by decide +kernel
theorem dX0_spread_74 : decode cX0_spread 74 = .ok (.imul, 1) := by decide +kernel
theorem dX0_spread_75 : decode cX0_spread 75 = .ok (.iload_n 3, 1) := by decide +kernel
theorem dX0_spread_76 : decode cX0_spread 76 = .ok (.iadd, 1) := by decide +kernel
theorem dX0_spread_77 : decode cX0_spread 77 = .ok (.iaload, 1) := by decide +kernel
theorem dX0_spread_78 : decode cX0_spread 78 = .ok (.istore 4, 2) := by decide +kernel
theorem dX0_spread_80 : decode cX0_spread 80 = .ok (.iload 4, 2) := by decide +kernel
theorem dX0_spread_82 : decode cX0_spread 82 = .ok (.ifCond .lt 24, 3) := by decide +kernel
theorem dX0_spread_85 : decode cX0_spread 85 = .ok (.aload_n 0, 1) := by decide +kernel
theorem dX0_spread_86 : decode cX0_spread 86 = .ok (.getfield 25, 3) := by decide +kernel
theorem dX0_spread_89 : decode cX0_spread 89 = .ok (.iload_n 1, 1) := by decide +kernel
theorem dX0_spread_90 : decode cX0_spread 90 = .ok (.dup2, 1) := by decide +kernel
theorem dX0_spread_91 : decode cX0_spread 91 = .ok (.iaload, 1) := by decide +kernel
theorem dX0_spread_92 : decode cX0_spread 92 = .ok (.iload_n 2, 1) := by decide +kernel
theorem dX0_spread_93 : decode cX0_spread 93 = .ok (.isub, 1) := by decide +kernel
theorem dX0_spread_94 : decode cX0_spread 94 = .ok (.iastore, 1) := by decide +kernel
theorem dX0_spread_95 : decode cX0_spread 95 = .ok (.aload_n 0, 1) := by decide +kernel
theorem dX0_spread_96 : decode cX0_spread 96 = .ok (.getfield 25, 3) := by decide +kernel
theorem dX0_spread_99 : decode cX0_spread 99 = .ok (.iload 4, 2) := by decide +kernel
theorem dX0_spread_101 : decode cX0_spread 101 = .ok (.dup2, 1) := by decide +kernel
theorem dX0_spread_102 : decode cX0_spread 102 = .ok (.iaload, 1) := by decide +kernel
theorem dX0_spread_103 : decode cX0_spread 103 = .ok (.iload_n 2, 1) := by decide +kernel
theorem dX0_spread_104 : decode cX0_spread 104 = .ok (.iadd, 1) := by decide +kernel
theorem dX0_spread_105 : decode cX0_spread 105 = .ok (.iastore, 1) := by decide +kernel
theorem dX0_spread_106 : decode cX0_spread 106 = .ok (.iinc 3 1, 3) := by decide +kernel
theorem dX0_spread_109 : decode cX0_spread 109 = .ok (.goto (-53), 3) := by decide +kernel
theorem dX0_spread_112 : decode cX0_spread 112 = .ok (.iinc 1 1, 3) := by decide +kernel
theorem dX0_spread_115 : decode cX0_spread 115 = .ok (.goto (-79), 3) := by decide +kernel
theorem dX0_spread_118 : decode cX0_spread 118 = .ok (.return_, 1) := by decide +kernel
theorem dX0_wander_0 : decode cX0_wander 0 = .ok (.aload_n 0, 1) := by decide +kernel
theorem dX0_wander_1 : decode cX0_wander 1 = .ok (.getfield 32, 3) := by decide +kernel
theorem dX0_wander_4 : decode cX0_wander 4 = .ok (.istore_n 2, 1) := by decide +kernel
theorem dX0_wander_5 : decode cX0_wander 5 = .ok (.aload_n 1, 1) := by decide +kernel
theorem dX0_wander_6 : decode cX0_wander 6 = .ok (.aload_n 0, 1) := by decide +kernel
theorem dX0_wander_7 : decode cX0_wander 7 = .ok (.aload_n 0, 1) := by decide +kernel
theorem dX0_wander_8 : decode cX0_wander 8 = .ok (.getfield 32, 3) := by decide +kernel
theorem dX0_wander_11 : decode cX0_wander 11 = .ok (.iconst 0, 1) := by decide +kernel
theorem dX0_wander_12 : decode cX0_wander 12 = .ok (.invokevirtual 153, 3) := by decide +kernel
theorem dX0_wander_15 : decode cX0_wander 15 = .ok (.lstore_n 3, 1) := by decide +kernel
theorem dX0_wander_16 : decode cX0_wander 16 = .ok (.iconst 1, 1) := by decide +kernel
theorem dX0_wander_17 : decode cX0_wander 17 = .ok (.istore 5, 2) := by decide +kernel
theorem dX0_wander_19 : decode cX0_wander 19 = .ok (.iload 5, 2) := by decide +kernel
theorem dX0_wander_21 : decode cX0_wander 21 = .ok (.iconst 5, 1) := by decide +kernel
theorem dX0_wander_22 : decode cX0_wander 22 = .ok (.if_icmp .ge 57, 3) := by decide +kernel
theorem dX0_wander_25 : decode cX0_wander 25 = .ok (.aload_n 0, 1) := by decide +kernel
theorem dX0_wander_26 : decode cX0_wander 26 = .ok (.getfield 12, 3) := by decide +kernel
theorem dX0_wander_29 : decode cX0_wander 29 = .ok (.getfield 138, 3) := by decide +kernel
theorem dX0_wander_32 : decode cX0_wander 32 = .ok (.aload_n 0, 1) := by decide +kernel
theorem dX0_wander_33 : decode cX0_wander 33 = .ok (.getfield 32, 3) := by decide +kernel
theorem dX0_wander_36 : decode cX0_wander 36 = .ok (.iconst 5, 1) := by decide +kernel
theorem dX0_wander_37 : decode cX0_wander 37 = .ok (.imul, 1) := by decide +kernel
theorem dX0_wander_38 : decode cX0_wander 38 = .ok (.iload 5, 2) := by decide +kernel
theorem dX0_wander_40 : decode cX0_wander 40 = .ok (.iadd, 1) := by decide +kernel
theorem dX0_wander_41 : decode cX0_wander 41 = .ok (.iaload, 1) := by decide +kernel
theorem dX0_wander_42 : decode cX0_wander 42 = .ok (.istore 6, 2) := by decide +kernel
theorem dX0_wander_44 : decode cX0_wander 44 = .ok (.iload 6, 2) := by decide +kernel
theorem dX0_wander_46 : decode cX0_wander 46 = .ok (.ifCond .lt 27, 3) := by decide +kernel
theorem dX0_wander_49 : decode cX0_wander 49 = .ok (.aload_n 1, 1) := by decide +kernel
theorem dX0_wander_50 : decode cX0_wander 50 = .ok (.aload_n 0, 1) := by decide +kernel
theorem dX0_wander_51 : decode cX0_wander 51 = .ok (.iload 6, 2) := by decide +kernel
theorem dX0_wander_53 : decode cX0_wander 53 = .ok (.iload 5, 2) := by decide +kernel
theorem dX0_wander_55 : decode cX0_wander 55 = .ok (.invokevirtual 153, 3) := by decide +kernel
theorem dX0_wander_58 : decode cX0_wander 58 = .ok (.lstore 7, 2) := by decide +kernel
theorem dX0_wander_60 : decode cX0_wander 60 = .ok (.lload 7, 2) := by decide +kernel
theorem dX0_wander_62 : decode cX0_wander 62 = .ok (.lload_n 3, 1) := by decide +kernel
theorem dX0_wander_63 : decode cX0_wander 63 = .ok (.lcmp, 1) := by decide +kernel
theorem dX0_wander_64 : decode cX0_wander 64 = .ok (.ifCond .le 9, 3) := by decide +kernel
theorem dX0_wander_67 : decode cX0_wander 67 = .ok (.lload 7, 2) := by decide +kernel
theorem dX0_wander_69 : decode cX0_wander 69 = .ok (.lstore_n 3, 1) := by decide +kernel
theorem dX0_wander_70 : decode cX0_wander 70 = .ok (.iload 6, 2) := by decide +kernel
theorem dX0_wander_72 : decode cX0_wander 72 = .ok (.istore_n 2, 1) := by decide +kernel
theorem dX0_wander_73 : decode cX0_wander 73 = .ok (.iinc 5 1, 3) := by decide +kernel
theorem dX0_wander_76 : decode cX0_wander 76 = .ok (.goto (-57), 3) := by decide +kernel
theorem dX0_wander_79 : decode cX0_wander 79 = .ok (.aload_n 0, 1) := by decide +kernel
theorem dX0_wander_80 : decode cX0_wander 80 = .ok (.aload_n 0, 1) := by decide +kernel
theorem dX0_wander_81 : decode cX0_wander 81 = .ok (.getfield 32, 3) := by decide +kernel
theorem dX0_wander_84 : decode cX0_wander 84 = .ok (.putfield 36, 3) := by decide +kernel
theorem dX0_wander_87 : decode cX0_wander 87 = .ok (.aload_n 0, 1) := by decide +kernel
theorem dX0_wander_88 : decode cX0_wander 88 = .ok (.iload_n 2, 1) := by decide +kernel
theorem dX0_wander_89 : decode cX0_wander 89 = .ok (.putfield 32, 3) := by decide +kernel
theorem dX0_wander_92 : decode cX0_wander 92 = .ok (.return_, 1) := by decide +kernel
theorem dX0_wordOf_0 : decode cX0_wordOf 0 = .ok (.iload_n 2, 1) := by decide +kernel
theorem dX0_wordOf_1 : decode cX0_wordOf 1 = .ok (.ifCond .lt 14, 3) := by decide +kernel
theorem dX0_wordOf_4 : decode cX0_wordOf 4 = .ok (.iload_n 2, 1) := by decide +kernel
theorem dX0_wordOf_5 : decode cX0_wordOf 5 = .ok (.aload_n 0, 1) := by decide +kernel
theorem dX0_wordOf_6 : decode cX0_wordOf 6 = .ok (.getfield 12, 3) := by decide +kernel
theorem dX0_wordOf_9 : decode cX0_wordOf 9 = .ok (.getfield 92, 3) := by decide +kernel
theorem dX0_wordOf_12 : decode cX0_wordOf 12 = .ok (.if_icmp .lt 5, 3) := by decide +kernel
theorem dX0_wordOf_15 : decode cX0_wordOf 15 = .ok (.lconst 0, 1) := by decide +kernel
theorem dX0_wordOf_16 : decode cX0_wordOf 16 = .ok (.lreturn, 1) := by decide +kernel
theorem dX0_wordOf_17 : decode cX0_wordOf 17 = .ok (.iload_n 1, 1) := by decide +kernel
theorem dX0_wordOf_18 : decode cX0_wordOf 18 = .ok (.tableswitch 192 (-9) (-1) #[181, 167, 164, 158, 147, 136, 117, 58, 50], 50) := by decide +kernel
theorem dX0_wordOf_68 : decode cX0_wordOf 68 = .ok (.aload_n 0, 1) := by decide +kernel
theorem dX0_wordOf_69 : decode cX0_wordOf 69 = .ok (.getfield 25, 3) := by decide +kernel
theorem dX0_wordOf_72 : decode cX0_wordOf 72 = .ok (.iload_n 2, 1) := by decide +kernel
theorem dX0_wordOf_73 : decode cX0_wordOf 73 = .ok (.iaload, 1) := by decide +kernel
theorem dX0_wordOf_74 : decode cX0_wordOf 74 = .ok (.i2l, 1) := by decide +kernel
theorem dX0_wordOf_75 : decode cX0_wordOf 75 = .ok (.lreturn, 1) := by decide +kernel
theorem dX0_wordOf_76 : decode cX0_wordOf 76 = .ok (.iconst 0, 1) := by decide +kernel
theorem dX0_wordOf_77 : decode cX0_wordOf 77 = .ok (.istore 4, 2) := by decide +kernel
theorem dX0_wordOf_79 : decode cX0_wordOf 79 = .ok (.iconst 1, 1) := by decide +kernel
theorem dX0_wordOf_80 : decode cX0_wordOf 80 = .ok (.istore 5, 2) := by decide +kernel
theorem dX0_wordOf_82 : decode cX0_wordOf 82 = .ok (.iload 5, 2) := by decide +kernel
theorem dX0_wordOf_84 : decode cX0_wordOf 84 = .ok (.iconst 5, 1) := by decide +kernel
theorem dX0_wordOf_85 : decode cX0_wordOf 85 = .ok (.if_icmp .ge 46, 3) := by decide +kernel
theorem dX0_wordOf_88 : decode cX0_wordOf 88 = .ok (.aload_n 0, 1) := by decide +kernel
theorem dX0_wordOf_89 : decode cX0_wordOf 89 = .ok (.getfield 12, 3) := by decide +kernel
theorem dX0_wordOf_92 : decode cX0_wordOf 92 = .ok (.getfield 138, 3) := by decide +kernel
theorem dX0_wordOf_95 : decode cX0_wordOf 95 = .ok (.iload_n 2, 1) := by decide +kernel
theorem dX0_wordOf_96 : decode cX0_wordOf 96 = .ok (.iconst 5, 1) := by decide +kernel
theorem dX0_wordOf_97 : decode cX0_wordOf 97 = .ok (.imul, 1) := by decide +kernel
theorem dX0_wordOf_98 : decode cX0_wordOf 98 = .ok (.iload 5, 2) := by decide +kernel
theorem dX0_wordOf_100 : decode cX0_wordOf 100 = .ok (.iadd, 1) := by decide +kernel
theorem dX0_wordOf_101 : decode cX0_wordOf 101 = .ok (.iaload, 1) := by decide +kernel
theorem dX0_wordOf_102 : decode cX0_wordOf 102 = .ok (.istore 6, 2) := by decide +kernel
theorem dX0_wordOf_104 : decode cX0_wordOf 104 = .ok (.iload 4, 2) := by decide +kernel
theorem dX0_wordOf_106 : decode cX0_wordOf 106 = .ok (.iload 6, 2) := by decide +kernel
theorem dX0_wordOf_108 : decode cX0_wordOf 108 = .ok (.ifCond .lt 13, 3) := by decide +kernel
theorem dX0_wordOf_111 : decode cX0_wordOf 111 = .ok (.aload_n 0, 1) := by decide +kernel
theorem dX0_wordOf_112 : decode cX0_wordOf 112 = .ok (.getfield 25, 3) := by decide +kernel
theorem dX0_wordOf_115 : decode cX0_wordOf 115 = .ok (.iload 6, 2) := by decide +kernel
theorem dX0_wordOf_117 : decode cX0_wordOf 117 = .ok (.iaload, 1) := by decide +kernel
theorem dX0_wordOf_118 : decode cX0_wordOf 118 = .ok (.goto 4, 3) := by decide +kernel
theorem dX0_wordOf_121 : decode cX0_wordOf 121 = .ok (.iconst 0, 1) := by decide +kernel
theorem dX0_wordOf_122 : decode cX0_wordOf 122 = .ok (.iadd, 1) := by decide +kernel
theorem dX0_wordOf_123 : decode cX0_wordOf 123 = .ok (.istore 4, 2) := by decide +kernel
theorem dX0_wordOf_125 : decode cX0_wordOf 125 = .ok (.iinc 5 1, 3) := by decide +kernel
theorem dX0_wordOf_128 : decode cX0_wordOf 128 = .ok (.goto (-46), 3) := by decide +kernel
theorem dX0_wordOf_131 : decode cX0_wordOf 131 = .ok (.iload 4, 2) := by decide +kernel
theorem dX0_wordOf_133 : decode cX0_wordOf 133 = .ok (.i2l, 1) := by decide +kernel
theorem dX0_wordOf_134 : decode cX0_wordOf 134 = .ok (.lreturn, 1) := by decide +kernel
theorem dX0_wordOf_135 : decode cX0_wordOf 135 = .ok (.aload_n 0, 1) := by decide +kernel
theorem dX0_wordOf_136 : decode cX0_wordOf 136 = .ok (.getfield 21, 3) := by decide +kernel
theorem dX0_wordOf_139 : decode cX0_wordOf 139 = .ok (.getfield 110, 3) := by decide +kernel
theorem dX0_wordOf_142 : decode cX0_wordOf 142 = .ok (.iload_n 2, 1) := by decide +kernel
theorem dX0_wordOf_143 : decode cX0_wordOf 143 = .ok (.iaload, 1) := by decide +kernel
theorem dX0_wordOf_144 : decode cX0_wordOf 144 = .ok (.iconst (-1), 1) := by decide +kernel
theorem dX0_wordOf_145 : decode cX0_wordOf 145 = .ok (.if_icmp .ne 7, 3) := by decide +kernel
theorem dX0_wordOf_148 : decode cX0_wordOf 148 = .ok (.lconst 0, 1) := by decide +kernel
theorem dX0_wordOf_149 : decode cX0_wordOf 149 = .ok (.goto 4, 3) := by decide +kernel
theorem dX0_wordOf_152 : decode cX0_wordOf 152 = .ok (.lconst 1, 1) := by decide +kernel
theorem dX0_wordOf_153 : decode cX0_wordOf 153 = .ok (.lreturn, 1) := by decide +kernel
theorem dX0_wordOf_154 : decode cX0_wordOf 154 = .ok (.aload_n 0, 1) := by decide +kernel
theorem dX0_wordOf_155 : decode cX0_wordOf 155 = .ok (.getfield 12, 3) := by decide +kernel
theorem dX0_wordOf_158 : decode cX0_wordOf 158 = .ok (.getfield 159, 3) := by decide +kernel
theorem dX0_wordOf_161 : decode cX0_wordOf 161 = .ok (.iload_n 2, 1) := by decide +kernel
theorem dX0_wordOf_162 : decode cX0_wordOf 162 = .ok (.iaload, 1) := by decide +kernel
theorem dX0_wordOf_163 : decode cX0_wordOf 163 = .ok (.i2l, 1) := by decide +kernel
theorem dX0_wordOf_164 : decode cX0_wordOf 164 = .ok (.lreturn, 1) := by decide +kernel
theorem dX0_wordOf_165 : decode cX0_wordOf 165 = .ok (.aload_n 0, 1) := by decide +kernel
theorem dX0_wordOf_166 : decode cX0_wordOf 166 = .ok (.getfield 12, 3) := by decide +kernel
theorem dX0_wordOf_169 : decode cX0_wordOf 169 = .ok (.getfield 162, 3) := by decide +kernel
theorem dX0_wordOf_172 : decode cX0_wordOf 172 = .ok (.iload_n 2, 1) := by decide +kernel
theorem dX0_wordOf_173 : decode cX0_wordOf 173 = .ok (.iaload, 1) := by decide +kernel
theorem dX0_wordOf_174 : decode cX0_wordOf 174 = .ok (.i2l, 1) := by decide +kernel
theorem dX0_wordOf_175 : decode cX0_wordOf 175 = .ok (.lreturn, 1) := by decide +kernel
theorem dX0_wordOf_176 : decode cX0_wordOf 176 = .ok (.aload_n 0, 1) := by decide +kernel
theorem dX0_wordOf_177 : decode cX0_wordOf 177 = .ok (.getfield 39, 3) := by decide +kernel
theorem dX0_wordOf_180 : decode cX0_wordOf 180 = .ok (.i2l, 1) := by decide +kernel
theorem dX0_wordOf_181 : decode cX0_wordOf 181 = .ok (.lreturn, 1) := by decide +kernel
theorem dX0_wordOf_182 : decode cX0_wordOf 182 = .ok (.iload_n 3, 1) := by decide +kernel
theorem dX0_wordOf_183 : decode cX0_wordOf 183 = .ok (.i2l, 1) := by decide +kernel
theorem dX0_wordOf_184 : decode cX0_wordOf 184 = .ok (.lreturn, 1) := by decide +kernel
theorem dX0_wordOf_185 : decode cX0_wordOf 185 = .ok (.iload_n 2, 1) := by decide +kernel
theorem dX0_wordOf_186 : decode cX0_wordOf 186 = .ok (.aload_n 0, 1) := by decide +kernel
theorem dX0_wordOf_187 : decode cX0_wordOf 187 = .ok (.getfield 36, 3) := by decide +kernel
theorem dX0_wordOf_190 : decode cX0_wordOf 190 = .ok (.if_icmp .ne 7, 3) := by decide +kernel
theorem dX0_wordOf_193 : decode cX0_wordOf 193 = .ok (.lconst 1, 1) := by decide +kernel
theorem dX0_wordOf_194 : decode cX0_wordOf 194 = .ok (.goto 4, 3) := by decide +kernel
theorem dX0_wordOf_197 : decode cX0_wordOf 197 = .ok (.lconst 0, 1) := by decide +kernel
theorem dX0_wordOf_198 : decode cX0_wordOf 198 = .ok (.lreturn, 1) := by decide +kernel
theorem dX0_wordOf_199 : decode cX0_wordOf 199 = .ok (.aload_n 0, 1) := by decide +kernel
theorem dX0_wordOf_200 : decode cX0_wordOf 200 = .ok (.getfield 12, 3) := by decide +kernel
theorem dX0_wordOf_203 : decode cX0_wordOf 203 = .ok (.getfield 165, 3) := by decide +kernel
theorem dX0_wordOf_206 : decode cX0_wordOf 206 = .ok (.iload_n 2, 1) := by decide +kernel
theorem dX0_wordOf_207 : decode cX0_wordOf 207 = .ok (.iaload, 1) := by decide +kernel
theorem dX0_wordOf_208 : decode cX0_wordOf 208 = .ok (.i2l, 1) := by decide +kernel
theorem dX0_wordOf_209 : decode cX0_wordOf 209 = .ok (.lreturn, 1) := by decide +kernel
theorem dX0_wordOf_210 : decode cX0_wordOf 210 = .ok (.lconst 0, 1) := by decide +kernel
theorem dX0_wordOf_211 : decode cX0_wordOf 211 = .ok (.lreturn, 1) := by decide +kernel
theorem dX0_drawWarmth_0 : decode cX0_drawWarmth 0 = .ok (.iconst 0, 1) := by decide +kernel
theorem dX0_drawWarmth_1 : decode cX0_drawWarmth 1 = .ok (.istore_n 1, 1) := by decide +kernel
theorem dX0_drawWarmth_2 : decode cX0_drawWarmth 2 = .ok (.iload_n 1, 1) := by decide +kernel
theorem dX0_drawWarmth_3 : decode cX0_drawWarmth 3 = .ok (.aload_n 0, 1) := by decide +kernel
theorem dX0_drawWarmth_4 : decode cX0_drawWarmth 4 = .ok (.getfield 21, 3) := by decide +kernel
theorem dX0_drawWarmth_7 : decode cX0_drawWarmth 7 = .ok (.getfield 116, 3) := by decide +kernel
theorem dX0_drawWarmth_10 : decode cX0_drawWarmth 10 = .ok (.if_icmp .ge 61, 3) := by decide +kernel
theorem dX0_drawWarmth_13 : decode cX0_drawWarmth 13 = .ok (.aload_n 0, 1) := by decide +kernel
theorem dX0_drawWarmth_14 : decode cX0_drawWarmth 14 = .ok (.getfield 21, 3) := by decide +kernel
theorem dX0_drawWarmth_17 : decode cX0_drawWarmth 17 = .ok (.iload_n 1, 1) := by decide +kernel
theorem dX0_drawWarmth_18 : decode cX0_drawWarmth 18 = .ok (.invokevirtual 168, 3) := by decide +kernel
theorem dX0_drawWarmth_21 : decode cX0_drawWarmth 21 = .ok (.ifCond .eq 44, 3) := by decide +kernel
theorem dX0_drawWarmth_24 : decode cX0_drawWarmth 24 = .ok (.aload_n 0, 1) := by decide +kernel
theorem dX0_drawWarmth_25 : decode cX0_drawWarmth 25 = .ok (.aload_n 0, 1) := by decide +kernel
theorem dX0_drawWarmth_26 : decode cX0_drawWarmth 26 = .ok (.getfield 51, 3) := by decide +kernel
theorem dX0_drawWarmth_29 : decode cX0_drawWarmth 29 = .ok (.i2l, 1) := by decide +kernel
theorem dX0_drawWarmth_30 : decode cX0_drawWarmth 30 = .ok (.ldc2_w 172, 3) := by decide +kernel
theorem dX0_drawWarmth_33 : decode cX0_drawWarmth 33 = .ok (.lmul, 1) := by decide +kernel
theorem dX0_drawWarmth_34 : decode cX0_drawWarmth 34 = .ok (.ldc2_w 174, 3) := by decide +kernel
theorem dX0_drawWarmth_37 : decode cX0_drawWarmth 37 = .ok (.ladd, 1) := by decide +kernel
theorem dX0_drawWarmth_38 : decode cX0_drawWarmth 38 = .ok (.ldc2_w 176, 3) := by decide +kernel
theorem dX0_drawWarmth_41 : decode cX0_drawWarmth 41 = .ok (.land, 1) := by decide +kernel
theorem dX0_drawWarmth_42 : decode cX0_drawWarmth 42 = .ok (.l2i, 1) := by decide +kernel
theorem dX0_drawWarmth_43 : decode cX0_drawWarmth 43 = .ok (.putfield 51, 3) := by decide +kernel
theorem dX0_drawWarmth_46 : decode cX0_drawWarmth 46 = .ok (.aload_n 0, 1) := by decide +kernel
theorem dX0_drawWarmth_47 : decode cX0_drawWarmth 47 = .ok (.getfield 21, 3) := by decide +kernel
theorem dX0_drawWarmth_50 : decode cX0_drawWarmth 50 = .ok (.getfield 121, 3) := by decide +kernel
theorem dX0_drawWarmth_53 : decode cX0_drawWarmth 53 = .ok (.iload_n 1, 1) := by decide +kernel
theorem dX0_drawWarmth_54 : decode cX0_drawWarmth 54 = .ok (.aload_n 0, 1) := by decide +kernel
theorem dX0_drawWarmth_55 : decode cX0_drawWarmth 55 = .ok (.getfield 51, 3) := by decide +kernel
theorem dX0_drawWarmth_58 : decode cX0_drawWarmth 58 = .ok (.ldc 178, 2) := by decide +kernel
theorem dX0_drawWarmth_60 : decode cX0_drawWarmth 60 = .ok (.idiv, 1) := by decide +kernel
theorem dX0_drawWarmth_61 : decode cX0_drawWarmth 61 = .ok (.bipush 100, 2) := by decide +kernel
theorem dX0_drawWarmth_63 : decode cX0_drawWarmth 63 = .ok (.irem, 1) := by decide +kernel
theorem dX0_drawWarmth_64 : decode cX0_drawWarmth 64 = .ok (.iastore, 1) := by decide +kernel
theorem dX0_drawWarmth_65 : decode cX0_drawWarmth 65 = .ok (.iinc 1 1, 3) := by decide +kernel
theorem dX0_drawWarmth_68 : decode cX0_drawWarmth 68 = .ok (.goto (-66), 3) := by decide +kernel
theorem dX0_drawWarmth_71 : decode cX0_drawWarmth 71 = .ok (.return_, 1) := by decide +kernel
theorem dX0_allHeat_0 : decode cX0_allHeat 0 = .ok (.iconst 0, 1) := by decide +kernel
theorem dX0_allHeat_1 : decode cX0_allHeat 1 = .ok (.istore_n 1, 1) := by decide +kernel
theorem dX0_allHeat_2 : decode cX0_allHeat 2 = .ok (.iconst 0, 1) := by decide +kernel
theorem dX0_allHeat_3 : decode cX0_allHeat 3 = .ok (.istore_n 2, 1) := by decide +kernel
theorem dX0_allHeat_4 : decode cX0_allHeat 4 = .ok (.iload_n 2, 1) := by decide +kernel
theorem dX0_allHeat_5 : decode cX0_allHeat 5 = .ok (.aload_n 0, 1) := by decide +kernel
theorem dX0_allHeat_6 : decode cX0_allHeat 6 = .ok (.getfield 12, 3) := by decide +kernel
theorem dX0_allHeat_9 : decode cX0_allHeat 9 = .ok (.getfield 92, 3) := by decide +kernel
theorem dX0_allHeat_12 : decode cX0_allHeat 12 = .ok (.if_icmp .ge 18, 3) := by decide +kernel
theorem dX0_allHeat_15 : decode cX0_allHeat 15 = .ok (.iload_n 1, 1) := by decide +kernel
theorem dX0_allHeat_16 : decode cX0_allHeat 16 = .ok (.aload_n 0, 1) := by decide +kernel
theorem dX0_allHeat_17 : decode cX0_allHeat 17 = .ok (.getfield 25, 3) := by decide +kernel
theorem dX0_allHeat_20 : decode cX0_allHeat 20 = .ok (.iload_n 2, 1) := by decide +kernel
theorem dX0_allHeat_21 : decode cX0_allHeat 21 = .ok (.iaload, 1) := by decide +kernel
theorem dX0_allHeat_22 : decode cX0_allHeat 22 = .ok (.iadd, 1) := by decide +kernel
theorem dX0_allHeat_23 : decode cX0_allHeat 23 = .ok (.istore_n 1, 1) := by decide +kernel
theorem dX0_allHeat_24 : decode cX0_allHeat 24 = .ok (.iinc 2 1, 3) := by decide +kernel
theorem dX0_allHeat_27 : decode cX0_allHeat 27 = .ok (.goto (-23), 3) := by decide +kernel
theorem dX0_allHeat_30 : decode cX0_allHeat 30 = .ok (.iload_n 1, 1) := by decide +kernel
theorem dX0_allHeat_31 : decode cX0_allHeat 31 = .ok (.ireturn, 1) := by decide +kernel
theorem dX0_logged_0 : decode cX0_logged 0 = .ok (.aload_n 0, 1) := by decide +kernel
theorem dX0_logged_1 : decode cX0_logged 1 = .ok (.getfield 39, 3) := by decide +kernel
theorem dX0_logged_4 : decode cX0_logged 4 = .ok (.bipush 120, 2) := by decide +kernel
theorem dX0_logged_6 : decode cX0_logged 6 = .ok (.invokestatic 133, 3) := by decide +kernel
theorem dX0_logged_9 : decode cX0_logged 9 = .ok (.ireturn, 1) := by decide +kernel
theorem dX0_spotAgo_0 : decode cX0_spotAgo 0 = .ok (.iload_n 1, 1) := by decide +kernel
theorem dX0_spotAgo_1 : decode cX0_spotAgo 1 = .ok (.iconst 1, 1) := by decide +kernel
theorem dX0_spotAgo_2 : decode cX0_spotAgo 2 = .ok (.if_icmp .lt 11, 3) := by decide +kernel
theorem dX0_spotAgo_5 : decode cX0_spotAgo 5 = .ok (.iload_n 1, 1) := by decide +kernel
theorem dX0_spotAgo_6 : decode cX0_spotAgo 6 = .ok (.aload_n 0, 1) := by decide +kernel
theorem dX0_spotAgo_7 : decode cX0_spotAgo 7 = .ok (.invokevirtual 179, 3) := by decide +kernel
theorem dX0_spotAgo_10 : decode cX0_spotAgo 10 = .ok (.if_icmp .le 7, 3) := by decide +kernel
theorem dX0_spotAgo_13 : decode cX0_spotAgo 13 = .ok (.iconst (-1), 1) := by decide +kernel
theorem dX0_spotAgo_14 : decode cX0_spotAgo 14 = .ok (.goto 17, 3) := by decide +kernel
theorem dX0_spotAgo_17 : decode cX0_spotAgo 17 = .ok (.aload_n 0, 1) := by decide +kernel
theorem dX0_spotAgo_18 : decode cX0_spotAgo 18 = .ok (.getfield 54, 3) := by decide +kernel
theorem dX0_spotAgo_21 : decode cX0_spotAgo 21 = .ok (.aload_n 0, 1) := by decide +kernel
theorem dX0_spotAgo_22 : decode cX0_spotAgo 22 = .ok (.getfield 39, 3) := by decide +kernel
theorem dX0_spotAgo_25 : decode cX0_spotAgo 25 = .ok (.iload_n 1, 1) := by decide +kernel
theorem dX0_spotAgo_26 : decode cX0_spotAgo 26 = .ok (.isub, 1) := by decide +kernel
theorem dX0_spotAgo_27 : decode cX0_spotAgo 27 = .ok (.bipush 120, 2) := by decide +kernel
theorem dX0_spotAgo_29 : decode cX0_spotAgo 29 = .ok (.irem, 1) := by decide +kernel
theorem dX0_spotAgo_30 : decode cX0_spotAgo 30 = .ok (.iaload, 1) := by decide +kernel
theorem dX0_spotAgo_31 : decode cX0_spotAgo 31 = .ok (.ireturn, 1) := by decide +kernel
theorem dX1_init_0 : decode cX1_init 0 = .ok (.aload_n 0, 1) := by decide +kernel
theorem dX1_init_1 : decode cX1_init 1 = .ok (.invokespecial 3, 3) := by decide +kernel
theorem dX1_init_4 : decode cX1_init 4 = .ok (.aload_n 0, 1) := by decide +kernel
theorem dX1_init_5 : decode cX1_init 5 = .ok (.iconst (-1), 1) := by decide +kernel
theorem dX1_init_6 : decode cX1_init 6 = .ok (.putfield 9, 3) := by decide +kernel
theorem dX1_init_9 : decode cX1_init 9 = .ok (.aload_n 0, 1) := by decide +kernel
theorem dX1_init_10 : decode cX1_init 10 = .ok (.iconst 0, 1) := by decide +kernel
theorem dX1_init_11 : decode cX1_init 11 = .ok (.putfield 15, 3) := by decide +kernel
theorem dX1_init_14 : decode cX1_init 14 = .ok (.aload_n 0, 1) := by decide +kernel
theorem dX1_init_15 : decode cX1_init 15 = .ok (.iconst 0, 1) := by decide +kernel
theorem dX1_init_16 : decode cX1_init 16 = .ok (.putfield 18, 3) := by decide +kernel
theorem dX1_init_19 : decode cX1_init 19 = .ok (.aload_n 0, 1) := by decide +kernel
theorem dX1_init_20 : decode cX1_init 20 = .ok (.iconst 0, 1) := by decide +kernel
theorem dX1_init_21 : decode cX1_init 21 = .ok (.putfield 21, 3) := by decide +kernel
theorem dX1_init_24 : decode cX1_init 24 = .ok (.aload_n 0, 1) := by decide +kernel
theorem dX1_init_25 : decode cX1_init 25 = .ok (.iconst 0, 1) := by decide +kernel
theorem dX1_init_26 : decode cX1_init 26 = .ok (.putfield 24, 3) := by decide +kernel
theorem dX1_init_29 : decode cX1_init 29 = .ok (.aload_n 0, 1) := by decide +kernel
theorem dX1_init_30 : decode cX1_init 30 = .ok (.iconst 0, 1) := by decide +kernel
theorem dX1_init_31 : decode cX1_init 31 = .ok (.putfield 27, 3) := by decide +kernel
theorem dX1_init_34 : decode cX1_init 34 = .ok (.aload_n 0, 1) := by decide +kernel
theorem dX1_init_35 : decode cX1_init 35 = .ok (.iconst 5, 1) := by decide +kernel
theorem dX1_init_36 : decode cX1_init 36 = .ok (.newarray .int, 2) := by decide +kernel
theorem dX1_init_38 : decode cX1_init 38 = .ok (.putfield 31, 3) := by decide +kernel
theorem dX1_init_41 : decode cX1_init 41 = .ok (.return_, 1) := by decide +kernel
theorem dX1_answers_0 : decode cX1_answers 0 = .ok (.aload_n 0, 1) := by decide +kernel
theorem dX1_answers_1 : decode cX1_answers 1 = .ok (.getfield 9, 3) := by decide +kernel
theorem dX1_answers_4 : decode cX1_answers 4 = .ok (.iload_n 1, 1) := by decide +kernel
theorem dX1_answers_5 : decode cX1_answers 5 = .ok (.if_icmp .ne 41, 3) := by decide +kernel
theorem dX1_answers_8 : decode cX1_answers 8 = .ok (.aload_n 0, 1) := by decide +kernel
theorem dX1_answers_9 : decode cX1_answers 9 = .ok (.getfield 15, 3) := by decide +kernel
theorem dX1_answers_12 : decode cX1_answers 12 = .ok (.iload_n 2, 1) := by decide +kernel
theorem dX1_answers_13 : decode cX1_answers 13 = .ok (.if_icmp .ne 33, 3) := by decide +kernel
theorem dX1_answers_16 : decode cX1_answers 16 = .ok (.aload_n 0, 1) := by decide +kernel
theorem dX1_answers_17 : decode cX1_answers 17 = .ok (.getfield 18, 3) := by decide +kernel
theorem dX1_answers_20 : decode cX1_answers 20 = .ok (.iload_n 3, 1) := by decide +kernel
theorem dX1_answers_21 : decode cX1_answers 21 = .ok (.if_icmp .ne 25, 3) := by decide +kernel
theorem dX1_answers_24 : decode cX1_answers 24 = .ok (.aload_n 0, 1) := by decide +kernel
theorem dX1_answers_25 : decode cX1_answers 25 = .ok (.getfield 21, 3) := by decide +kernel
theorem dX1_answers_28 : decode cX1_answers 28 = .ok (.iload 4, 2) := by decide +kernel
theorem dX1_answers_30 : decode cX1_answers 30 = .ok (.if_icmp .ne 16, 3) := by decide +kernel
theorem dX1_answers_33 : decode cX1_answers 33 = .ok (.aload_n 0, 1) := by decide +kernel
theorem dX1_answers_34 : decode cX1_answers 34 = .ok (.getfield 24, 3) := by decide +kernel
theorem dX1_answers_37 : decode cX1_answers 37 = .ok (.iload 5, 2) := by decide +kernel
theorem dX1_answers_39 : decode cX1_answers 39 = .ok (.if_icmp .ne 7, 3) := by decide +kernel
theorem dX1_answers_42 : decode cX1_answers 42 = .ok (.iconst 1, 1) := by decide +kernel
theorem dX1_answers_43 : decode cX1_answers 43 = .ok (.goto 4, 3) := by decide +kernel
theorem dX1_answers_46 : decode cX1_answers 46 = .ok (.iconst 0, 1) := by decide +kernel
theorem dX1_answers_47 : decode cX1_answers 47 = .ok (.ireturn, 1) := by decide +kernel
theorem dX1_begin_0 : decode cX1_begin 0 = .ok (.aload_n 0, 1) := by decide +kernel
theorem dX1_begin_1 : decode cX1_begin 1 = .ok (.iload_n 1, 1) := by decide +kernel
theorem dX1_begin_2 : decode cX1_begin 2 = .ok (.putfield 9, 3) := by decide +kernel
theorem dX1_begin_5 : decode cX1_begin 5 = .ok (.aload_n 0, 1) := by decide +kernel
theorem dX1_begin_6 : decode cX1_begin 6 = .ok (.iload_n 2, 1) := by decide +kernel
theorem dX1_begin_7 : decode cX1_begin 7 = .ok (.putfield 15, 3) := by decide +kernel
theorem dX1_begin_10 : decode cX1_begin 10 = .ok (.aload_n 0, 1) := by decide +kernel
theorem dX1_begin_11 : decode cX1_begin 11 = .ok (.iload_n 3, 1) := by decide +kernel
theorem dX1_begin_12 : decode cX1_begin 12 = .ok (.putfield 18, 3) := by decide +kernel
theorem dX1_begin_15 : decode cX1_begin 15 = .ok (.aload_n 0, 1) := by decide +kernel
theorem dX1_begin_16 : decode cX1_begin 16 = .ok (.iload 4, 2) := by decide +kernel
theorem dX1_begin_18 : decode cX1_begin 18 = .ok (.putfield 21, 3) := by decide +kernel
theorem dX1_begin_21 : decode cX1_begin 21 = .ok (.aload_n 0, 1) := by decide +kernel
theorem dX1_begin_22 : decode cX1_begin 22 = .ok (.iload 5, 2) := by decide +kernel
theorem dX1_begin_24 : decode cX1_begin 24 = .ok (.putfield 24, 3) := by decide +kernel
theorem dX1_begin_27 : decode cX1_begin 27 = .ok (.aload_n 0, 1) := by decide +kernel
theorem dX1_begin_28 : decode cX1_begin 28 = .ok (.iconst 0, 1) := by decide +kernel
theorem dX1_begin_29 : decode cX1_begin 29 = .ok (.putfield 27, 3) := by decide +kernel
theorem dX1_begin_32 : decode cX1_begin 32 = .ok (.return_, 1) := by decide +kernel
theorem dX1_forget_0 : decode cX1_forget 0 = .ok (.aload_n 0, 1) := by decide +kernel
theorem dX1_forget_1 : decode cX1_forget 1 = .ok (.iconst (-1), 1) := by decide +kernel
theorem dX1_forget_2 : decode cX1_forget 2 = .ok (.putfield 9, 3) := by decide +kernel
theorem dX1_forget_5 : decode cX1_forget 5 = .ok (.return_, 1) := by decide +kernel
theorem dX1_keep_0 : decode cX1_keep 0 = .ok (.aload_n 0, 1) := by decide +kernel
theorem dX1_keep_1 : decode cX1_keep 1 = .ok (.getfield 31, 3) := by decide +kernel
theorem dX1_keep_4 : decode cX1_keep 4 = .ok (.iconst 0, 1) := by decide +kernel
theorem dX1_keep_5 : decode cX1_keep 5 = .ok (.iload_n 1, 1) := by decide +kernel
theorem dX1_keep_6 : decode cX1_keep 6 = .ok (.iastore, 1) := by decide +kernel
theorem dX1_keep_7 : decode cX1_keep 7 = .ok (.aload_n 0, 1) := by decide +kernel
theorem dX1_keep_8 : decode cX1_keep 8 = .ok (.getfield 31, 3) := by decide +kernel
theorem dX1_keep_11 : decode cX1_keep 11 = .ok (.iconst 1, 1) := by decide +kernel
theorem dX1_keep_12 : decode cX1_keep 12 = .ok (.iload_n 2, 1) := by decide +kernel
theorem dX1_keep_13 : decode cX1_keep 13 = .ok (.iastore, 1) := by decide +kernel
theorem dX1_keep_14 : decode cX1_keep 14 = .ok (.aload_n 0, 1) := by decide +kernel
theorem dX1_keep_15 : decode cX1_keep 15 = .ok (.getfield 31, 3) := by decide +kernel
theorem dX1_keep_18 : decode cX1_keep 18 = .ok (.iconst 2, 1) := by decide +kernel
theorem dX1_keep_19 : decode cX1_keep 19 = .ok (.iload_n 3, 1) := by decide +kernel
theorem dX1_keep_20 : decode cX1_keep 20 = .ok (.iastore, 1) := by decide +kernel
theorem dX1_keep_21 : decode cX1_keep 21 = .ok (.aload_n 0, 1) := by decide +kernel
theorem dX1_keep_22 : decode cX1_keep 22 = .ok (.getfield 31, 3) := by decide +kernel
theorem dX1_keep_25 : decode cX1_keep 25 = .ok (.iconst 3, 1) := by decide +kernel
theorem dX1_keep_26 : decode cX1_keep 26 = .ok (.iload 4, 2) := by decide +kernel
theorem dX1_keep_28 : decode cX1_keep 28 = .ok (.iastore, 1) := by decide +kernel
theorem dX1_keep_29 : decode cX1_keep 29 = .ok (.aload_n 0, 1) := by decide +kernel
theorem dX1_keep_30 : decode cX1_keep 30 = .ok (.getfield 31, 3) := by decide +kernel
theorem dX1_keep_33 : decode cX1_keep 33 = .ok (.iconst 4, 1) := by decide +kernel
theorem dX1_keep_34 : decode cX1_keep 34 = .ok (.iconst 0, 1) := by decide +kernel
theorem dX1_keep_35 : decode cX1_keep 35 = .ok (.iastore, 1) := by decide +kernel
theorem dX1_keep_36 : decode cX1_keep 36 = .ok (.aload_n 0, 1) := by decide +kernel
theorem dX1_keep_37 : decode cX1_keep 37 = .ok (.iconst 1, 1) := by decide +kernel
theorem dX1_keep_38 : decode cX1_keep 38 = .ok (.putfield 27, 3) := by decide +kernel
theorem dX1_keep_41 : decode cX1_keep 41 = .ok (.return_, 1) := by decide +kernel
theorem dX1_keepSpan_0 : decode cX1_keepSpan 0 = .ok (.aload_n 0, 1) := by decide +kernel
theorem dX1_keepSpan_1 : decode cX1_keepSpan 1 = .ok (.aload_n 1, 1) := by decide +kernel
theorem dX1_keepSpan_2 : decode cX1_keepSpan 2 = .ok (.getfield 35, 3) := by decide +kernel
theorem dX1_keepSpan_5 : decode cX1_keepSpan 5 = .ok (.iconst (-1), 1) := by decide +kernel
theorem dX1_keepSpan_6 : decode cX1_keepSpan 6 = .ok (.aload_n 1, 1) := by decide +kernel
theorem dX1_keepSpan_7 : decode cX1_keepSpan 7 = .ok (.getfield 40, 3) := by decide +kernel
theorem dX1_keepSpan_10 : decode cX1_keepSpan 10 = .ok (.iconst (-1), 1) := by decide +kernel
theorem dX1_keepSpan_11 : decode cX1_keepSpan 11 = .ok (.invokevirtual 43, 3) := by decide +kernel
theorem dX1_keepSpan_14 : decode cX1_keepSpan 14 = .ok (.iconst 0, 1) := by decide +kernel
theorem dX1_keepSpan_15 : decode cX1_keepSpan 15 = .ok (.istore_n 3, 1) := by decide +kernel
theorem dX1_keepSpan_16 : decode cX1_keepSpan 16 = .ok (.iload_n 3, 1) := by decide +kernel
theorem dX1_keepSpan_17 : decode cX1_keepSpan 17 = .ok (.aload_n 1, 1) := by decide +kernel
theorem dX1_keepSpan_18 : decode cX1_keepSpan 18 = .ok (.getfield 47, 3) := by decide +kernel
theorem dX1_keepSpan_21 : decode cX1_keepSpan 21 = .ok (.if_icmp .ge 116, 3) := by decide +kernel
theorem dX1_keepSpan_24 : decode cX1_keepSpan 24 = .ok (.iload_n 3, 1) := by decide +kernel
theorem dX1_keepSpan_25 : decode cX1_keepSpan 25 = .ok (.aload_n 2, 1) := by decide +kernel
theorem dX1_keepSpan_26 : decode cX1_keepSpan 26 = .ok (.arraylength, 1) := by decide +kernel
theorem dX1_keepSpan_27 : decode cX1_keepSpan 27 = .ok (.if_icmp .ge 110, 3) := by decide +kernel
theorem dX1_keepSpan_30 : decode cX1_keepSpan 30 = .ok (.aload_n 2, 1) := by decide +kernel
theorem dX1_keepSpan_31 : decode cX1_keepSpan 31 = .ok (.iload_n 3, 1) := by decide +kernel
theorem dX1_keepSpan_32 : decode cX1_keepSpan 32 = .ok (.iaload, 1) := by decide +kernel
theorem dX1_keepSpan_33 : decode cX1_keepSpan 33 = .ok (.iconst 1, 1) := by decide +kernel
theorem dX1_keepSpan_34 : decode cX1_keepSpan 34 = .ok (.if_icmp .ne 97, 3) := by decide +kernel
theorem dX1_keepSpan_37 : decode cX1_keepSpan 37 = .ok (.aload_n 0, 1) := by decide +kernel
theorem dX1_keepSpan_38 : decode cX1_keepSpan 38 = .ok (.getfield 31, 3) := by decide +kernel
theorem dX1_keepSpan_41 : decode cX1_keepSpan 41 = .ok (.iconst 0, 1) := by decide +kernel
theorem dX1_keepSpan_42 : decode cX1_keepSpan 42 = .ok (.aload_n 0, 1) := by decide +kernel
theorem dX1_keepSpan_43 : decode cX1_keepSpan 43 = .ok (.getfield 31, 3) := by decide +kernel
theorem dX1_keepSpan_46 : decode cX1_keepSpan 46 = .ok (.iconst 0, 1) := by decide +kernel
theorem dX1_keepSpan_47 : decode cX1_keepSpan 47 = .ok (.iaload, 1) := by decide +kernel
theorem dX1_keepSpan_48 : decode cX1_keepSpan 48 = .ok (.aload_n 1, 1) := by decide +kernel
theorem dX1_keepSpan_49 : decode cX1_keepSpan 49 = .ok (.getfield 50, 3) := by decide +kernel
theorem dX1_keepSpan_52 : decode cX1_keepSpan 52 = .ok (.iload_n 3, 1) := by decide +kernel
theorem dX1_keepSpan_53 : decode cX1_keepSpan 53 = .ok (.iaload, 1) := by decide +kernel
theorem dX1_keepSpan_54 : decode cX1_keepSpan 54 = .ok (.invokestatic 53, 3) := by decide +kernel
theorem dX1_keepSpan_57 : decode cX1_keepSpan 57 = .ok (.iastore, 1) := by decide +kernel
theorem dX1_keepSpan_58 : decode cX1_keepSpan 58 = .ok (.aload_n 0, 1) := by decide +kernel
theorem dX1_keepSpan_59 : decode cX1_keepSpan 59 = .ok (.getfield 31, 3) := by decide +kernel
theorem dX1_keepSpan_62 : decode cX1_keepSpan 62 = .ok (.iconst 1, 1) := by decide +kernel
theorem dX1_keepSpan_63 : decode cX1_keepSpan 63 = .ok (.aload_n 0, 1) := by decide +kernel
theorem dX1_keepSpan_64 : decode cX1_keepSpan 64 = .ok (.getfield 31, 3) := by decide +kernel
theorem dX1_keepSpan_67 : decode cX1_keepSpan 67 = .ok (.iconst 1, 1) := by decide +kernel
theorem dX1_keepSpan_68 : decode cX1_keepSpan 68 = .ok (.iaload, 1) := by decide +kernel
theorem dX1_keepSpan_69 : decode cX1_keepSpan 69 = .ok (.aload_n 1, 1) := by decide +kernel
theorem dX1_keepSpan_70 : decode cX1_keepSpan 70 = .ok (.getfield 50, 3) := by decide +kernel
theorem dX1_keepSpan_73 : decode cX1_keepSpan 73 = .ok (.iload_n 3, 1) := by decide +kernel
theorem dX1_keepSpan_74 : decode cX1_keepSpan 74 = .ok (.iaload, 1) := by decide +kernel
theorem dX1_keepSpan_75 : decode cX1_keepSpan 75 = .ok (.invokestatic 59, 3) := by decide +kernel
theorem dX1_keepSpan_78 : decode cX1_keepSpan 78 = .ok (.iastore, 1) := by decide +kernel
theorem dX1_keepSpan_79 : decode cX1_keepSpan 79 = .ok (.aload_n 0, 1) := by decide +kernel
theorem dX1_keepSpan_80 : decode cX1_keepSpan 80 = .ok (.getfield 31, 3) := by decide +kernel
theorem dX1_keepSpan_83 : decode cX1_keepSpan 83 = .ok (.iconst 2, 1) := by decide +kernel
theorem dX1_keepSpan_84 : decode cX1_keepSpan 84 = .ok (.aload_n 0, 1) := by decide +kernel
theorem dX1_keepSpan_85 : decode cX1_keepSpan 85 = .ok (.getfield 31, 3) := by decide +kernel
theorem dX1_keepSpan_88 : decode cX1_keepSpan 88 = .ok (.iconst 2, 1) := by decide +kernel
theorem dX1_keepSpan_89 : decode cX1_keepSpan 89 = .ok (.iaload, 1) := by decide +kernel
theorem dX1_keepSpan_90 : decode cX1_keepSpan 90 = .ok (.aload_n 1, 1) := by decide +kernel
theorem dX1_keepSpan_91 : decode cX1_keepSpan 91 = .ok (.getfield 62, 3) := by decide +kernel
theorem dX1_keepSpan_94 : decode cX1_keepSpan 94 = .ok (.iload_n 3, 1) := by decide +kernel
theorem dX1_keepSpan_95 : decode cX1_keepSpan 95 = .ok (.iaload, 1) := by decide +kernel
theorem dX1_keepSpan_96 : decode cX1_keepSpan 96 = .ok (.invokestatic 53, 3) := by decide +kernel
theorem dX1_keepSpan_99 : decode cX1_keepSpan 99 = .ok (.iastore, 1) := by decide +kernel
theorem dX1_keepSpan_100 : decode cX1_keepSpan 100 = .ok (.aload_n 0, 1) := by decide +kernel
theorem dX1_keepSpan_101 : decode cX1_keepSpan 101 = .ok (.getfield 31, 3) := by decide +kernel
theorem dX1_keepSpan_104 : decode cX1_keepSpan 104 = .ok (.iconst 3, 1) := by decide +kernel
theorem dX1_keepSpan_105 : decode cX1_keepSpan 105 = .ok (.aload_n 0, 1) := by decide +kernel
theorem dX1_keepSpan_106 : decode cX1_keepSpan 106 = .ok (.getfield 31, 3) := by decide +kernel
theorem dX1_keepSpan_109 : decode cX1_keepSpan 109 = .ok (.iconst 3, 1) := by decide +kernel
theorem dX1_keepSpan_110 : decode cX1_keepSpan 110 = .ok (.iaload, 1) := by decide +kernel
theorem dX1_keepSpan_111 : decode cX1_keepSpan 111 = .ok (.aload_n 1, 1) := by decide +kernel
theorem dX1_keepSpan_112 : decode cX1_keepSpan 112 = .ok (.getfield 62, 3) := by decide +kernel
theorem dX1_keepSpan_115 : decode cX1_keepSpan 115 = .ok (.iload_n 3, 1) := by decide +kernel
theorem dX1_keepSpan_116 : decode cX1_keepSpan 116 = .ok (.iaload, 1) := by decide +kernel
theorem dX1_keepSpan_117 : decode cX1_keepSpan 117 = .ok (.invokestatic 59, 3) := by decide +kernel
theorem dX1_keepSpan_120 : decode cX1_keepSpan 120 = .ok (.iastore, 1) := by decide +kernel
theorem dX1_keepSpan_121 : decode cX1_keepSpan 121 = .ok (.aload_n 0, 1) := by decide +kernel
theorem dX1_keepSpan_122 : decode cX1_keepSpan 122 = .ok (.getfield 31, 3) := by decide +kernel
theorem dX1_keepSpan_125 : decode cX1_keepSpan 125 = .ok (.iconst 4, 1) := by decide +kernel
theorem dX1_keepSpan_126 : decode cX1_keepSpan 126 = .ok (.dup2, 1) := by decide +kernel
theorem dX1_keepSpan_127 : decode cX1_keepSpan 127 = .ok (.iaload, 1) := by decide +kernel
theorem dX1_keepSpan_128 : decode cX1_keepSpan 128 = .ok (.iconst 1, 1) := by decide +kernel
theorem dX1_keepSpan_129 : decode cX1_keepSpan 129 = .ok (.iadd, 1) := by decide +kernel
theorem dX1_keepSpan_130 : decode cX1_keepSpan 130 = .ok (.iastore, 1) := by decide +kernel
theorem dX1_keepSpan_131 : decode cX1_keepSpan 131 = .ok (.iinc 3 1, 3) := by decide +kernel
theorem dX1_keepSpan_134 : decode cX1_keepSpan 134 = .ok (.goto (-118), 3) := by decide +kernel
theorem dX1_keepSpan_137 : decode cX1_keepSpan 137 = .ok (.return_, 1) := by decide +kernel
theorem dX1_part_0 : decode cX1_part 0 = .ok (.aload_n 0, 1) := by decide +kernel
theorem dX1_part_1 : decode cX1_part 1 = .ok (.getfield 27, 3) := by decide +kernel
theorem dX1_part_4 : decode cX1_part 4 = .ok (.ifCond .eq 21, 3) := by decide +kernel
theorem dX1_part_7 : decode cX1_part 7 = .ok (.iload_n 1, 1) := by decide +kernel
theorem dX1_part_8 : decode cX1_part 8 = .ok (.ifCond .lt 17, 3) := by decide +kernel
theorem dX1_part_11 : decode cX1_part 11 = .ok (.iload_n 1, 1) := by decide +kernel
theorem dX1_part_12 : decode cX1_part 12 = .ok (.iconst 5, 1) := by decide +kernel
theorem dX1_part_13 : decode cX1_part 13 = .ok (.if_icmp .ge 12, 3) := by decide +kernel
theorem dX1_part_16 : decode cX1_part 16 = .ok (.aload_n 0, 1) := by decide +kernel
theorem dX1_part_17 : decode cX1_part 17 = .ok (.getfield 31, 3) := by decide +kernel
theorem dX1_part_20 : decode cX1_part 20 = .ok (.iload_n 1, 1) := by decide +kernel
theorem dX1_part_21 : decode cX1_part 21 = .ok (.iaload, 1) := by decide +kernel
theorem dX1_part_22 : decode cX1_part 22 = .ok (.goto 5, 3) := by decide +kernel
theorem dX1_part_25 : decode cX1_part 25 = .ok (.bipush (-2), 2) := by decide +kernel
theorem dX1_part_27 : decode cX1_part 27 = .ok (.ireturn, 1) := by decide +kernel
theorem dX2_init_0 : decode cX2_init 0 = .ok (.aload_n 0, 1) := by decide +kernel
theorem dX2_init_1 : decode cX2_init 1 = .ok (.invokespecial 3, 3) := by decide +kernel
theorem dX2_init_4 : decode cX2_init 4 = .ok (.aload_n 0, 1) := by decide +kernel
theorem dX2_init_5 : decode cX2_init 5 = .ok (.iconst 0, 1) := by decide +kernel
theorem dX2_init_6 : decode cX2_init 6 = .ok (.putfield 9, 3) := by decide +kernel
theorem dX2_init_9 : decode cX2_init 9 = .ok (.aload_n 0, 1) := by decide +kernel
theorem dX2_init_10 : decode cX2_init 10 = .ok (.bipush 12, 2) := by decide +kernel
theorem dX2_init_12 : decode cX2_init 12 = .ok (.newarray .int, 2) := by decide +kernel
theorem dX2_init_14 : decode cX2_init 14 = .ok (.putfield 15, 3) := by decide +kernel
theorem dX2_init_17 : decode cX2_init 17 = .ok (.aload_n 0, 1) := by decide +kernel
theorem dX2_init_18 : decode cX2_init 18 = .ok (.bipush 12, 2) := by decide +kernel
theorem dX2_init_20 : decode cX2_init 20 = .ok (.newarray .int, 2) := by decide +kernel
theorem dX2_init_22 : decode cX2_init 22 = .ok (.putfield 19, 3) := by decide +kernel
theorem dX2_init_25 : decode cX2_init 25 = .ok (.aload_n 0, 1) := by decide +kernel
theorem dX2_init_26 : decode cX2_init 26 = .ok (.bipush 12, 2) := by decide +kernel
theorem dX2_init_28 : decode cX2_init 28 = .ok (.newarray .int, 2) := by decide +kernel
theorem dX2_init_30 : decode cX2_init 30 = .ok (.putfield 22, 3) := by decide +kernel
theorem dX2_init_33 : decode cX2_init 33 = .ok (.aload_n 0, 1) := by decide +kernel
theorem dX2_init_34 : decode cX2_init 34 = .ok (.bipush 12, 2) := by decide +kernel
theorem dX2_init_36 : decode cX2_init 36 = .ok (.newarray .int, 2) := by decide +kernel
theorem dX2_init_38 : decode cX2_init 38 = .ok (.putfield 25, 3) := by decide +kernel
theorem dX2_init_41 : decode cX2_init 41 = .ok (.aload_n 0, 1) := by decide +kernel
theorem dX2_init_42 : decode cX2_init 42 = .ok (.bipush 80, 2) := by decide +kernel
theorem dX2_init_44 : decode cX2_init 44 = .ok (.newarray .int, 2) := by decide +kernel
theorem dX2_init_46 : decode cX2_init 46 = .ok (.putfield 30, 3) := by decide +kernel
theorem dX2_init_49 : decode cX2_init 49 = .ok (.return_, 1) := by decide +kernel
theorem dX2_clear_0 : decode cX2_clear 0 = .ok (.aload_n 0, 1) := by decide +kernel
theorem dX2_clear_1 : decode cX2_clear 1 = .ok (.iconst 0, 1) := by decide +kernel
theorem dX2_clear_2 : decode cX2_clear 2 = .ok (.putfield 9, 3) := by decide +kernel
theorem dX2_clear_5 : decode cX2_clear 5 = .ok (.aload_n 0, 1) := by decide +kernel
theorem dX2_clear_6 : decode cX2_clear 6 = .ok (.getfield 30, 3) := by decide +kernel
theorem dX2_clear_9 : decode cX2_clear 9 = .ok (.iconst (-1), 1) := by decide +kernel
theorem dX2_clear_10 : decode cX2_clear 10 = .ok (.invokestatic 33, 3) := by decide +kernel
theorem dX2_clear_13 : decode cX2_clear 13 = .ok (.return_, 1) := by decide +kernel
theorem dX2_add_0 : decode cX2_add 0 = .ok (.aload_n 0, 1) := by decide +kernel
theorem dX2_add_1 : decode cX2_add 1 = .ok (.getfield 9, 3) := by decide +kernel
theorem dX2_add_4 : decode cX2_add 4 = .ok (.bipush 12, 2) := by decide +kernel
theorem dX2_add_6 : decode cX2_add 6 = .ok (.if_icmp .lt 4, 3) := by decide +kernel
theorem dX2_add_9 : decode cX2_add 9 = .ok (.return_, 1) := by decide +kernel
theorem dX2_add_10 : decode cX2_add 10 = .ok (.aload_n 0, 1) := by decide +kernel
theorem dX2_add_11 : decode cX2_add 11 = .ok (.getfield 9, 3) := by decide +kernel
theorem dX2_add_14 : decode cX2_add 14 = .ok (.istore 4, 2) := by decide +kernel
theorem dX2_add_16 : decode cX2_add 16 = .ok (.aload_n 0, 1) := by decide +kernel
theorem dX2_add_17 : decode cX2_add 17 = .ok (.dup, 1) := by decide +kernel
theorem dX2_add_18 : decode cX2_add 18 = .ok (.getfield 9, 3) := by decide +kernel
theorem dX2_add_21 : decode cX2_add 21 = .ok (.iconst 1, 1) := by decide +kernel
theorem dX2_add_22 : decode cX2_add 22 = .ok (.iadd, 1) := by decide +kernel
theorem dX2_add_23 : decode cX2_add 23 = .ok (.putfield 9, 3) := by decide +kernel
theorem dX2_add_26 : decode cX2_add 26 = .ok (.aload_n 0, 1) := by decide +kernel
theorem dX2_add_27 : decode cX2_add 27 = .ok (.getfield 15, 3) := by decide +kernel
theorem dX2_add_30 : decode cX2_add 30 = .ok (.iload 4, 2) := by decide +kernel
theorem dX2_add_32 : decode cX2_add 32 = .ok (.iconst (-1), 1) := by decide +kernel
theorem dX2_add_33 : decode cX2_add 33 = .ok (.iastore, 1) := by decide +kernel
theorem dX2_add_34 : decode cX2_add 34 = .ok (.aload_n 0, 1) := by decide +kernel
theorem dX2_add_35 : decode cX2_add 35 = .ok (.getfield 19, 3) := by decide +kernel
theorem dX2_add_38 : decode cX2_add 38 = .ok (.iload 4, 2) := by decide +kernel
theorem dX2_add_40 : decode cX2_add 40 = .ok (.iload_n 2, 1) := by decide +kernel
theorem dX2_add_41 : decode cX2_add 41 = .ok (.iastore, 1) := by decide +kernel
theorem dX2_add_42 : decode cX2_add 42 = .ok (.aload_n 0, 1) := by decide +kernel
theorem dX2_add_43 : decode cX2_add 43 = .ok (.getfield 22, 3) := by decide +kernel
theorem dX2_add_46 : decode cX2_add 46 = .ok (.iload 4, 2) := by decide +kernel
theorem dX2_add_48 : decode cX2_add 48 = .ok (.iload_n 3, 1) := by decide +kernel
theorem dX2_add_49 : decode cX2_add 49 = .ok (.iastore, 1) := by decide +kernel
theorem dX2_add_50 : decode cX2_add 50 = .ok (.aload_n 0, 1) := by decide +kernel
theorem dX2_add_51 : decode cX2_add 51 = .ok (.getfield 25, 3) := by decide +kernel
theorem dX2_add_54 : decode cX2_add 54 = .ok (.iload 4, 2) := by decide +kernel
theorem dX2_add_56 : decode cX2_add 56 = .ok (.iconst 0, 1) := by decide +kernel
theorem dX2_add_57 : decode cX2_add 57 = .ok (.iastore, 1) := by decide +kernel
theorem dX2_add_58 : decode cX2_add 58 = .ok (.aload_n 0, 1) := by decide +kernel
theorem dX2_add_59 : decode cX2_add 59 = .ok (.iload 4, 2) := by decide +kernel
theorem dX2_add_61 : decode cX2_add 61 = .ok (.iload_n 1, 1) := by decide +kernel
theorem dX2_add_62 : decode cX2_add 62 = .ok (.invokevirtual 39, 3) := by decide +kernel
theorem dX2_add_65 : decode cX2_add 65 = .ok (.return_, 1) := by decide +kernel
theorem dX2_known_0 : decode cX2_known 0 = .ok (.iload_n 1, 1) := by decide +kernel
theorem dX2_known_1 : decode cX2_known 1 = .ok (.ifCond .lt 15, 3) := by decide +kernel
theorem dX2_known_4 : decode cX2_known 4 = .ok (.iload_n 1, 1) := by decide +kernel
theorem dX2_known_5 : decode cX2_known 5 = .ok (.aload_n 0, 1) := by decide +kernel
theorem dX2_known_6 : decode cX2_known 6 = .ok (.getfield 9, 3) := by decide +kernel
theorem dX2_known_9 : decode cX2_known 9 = .ok (.if_icmp .ge 7, 3) := by decide +kernel
theorem dX2_known_12 : decode cX2_known 12 = .ok (.iconst 1, 1) := by decide +kernel
theorem dX2_known_13 : decode cX2_known 13 = .ok (.goto 4, 3) := by decide +kernel
theorem dX2_known_16 : decode cX2_known 16 = .ok (.iconst 0, 1) := by decide +kernel
theorem dX2_known_17 : decode cX2_known 17 = .ok (.ireturn, 1) := by decide +kernel
theorem dX2_here_0 : decode cX2_here 0 = .ok (.iload_n 1, 1) := by decide +kernel
theorem dX2_here_1 : decode cX2_here 1 = .ok (.ifCond .lt 25, 3) := by decide +kernel
theorem dX2_here_4 : decode cX2_here 4 = .ok (.iload_n 1, 1) := by decide +kernel
theorem dX2_here_5 : decode cX2_here 5 = .ok (.aload_n 0, 1) := by decide +kernel
theorem dX2_here_6 : decode cX2_here 6 = .ok (.getfield 9, 3) := by decide +kernel
theorem dX2_here_9 : decode cX2_here 9 = .ok (.if_icmp .ge 17, 3) := by decide +kernel
theorem dX2_here_12 : decode cX2_here 12 = .ok (.aload_n 0, 1) := by decide +kernel
theorem dX2_here_13 : decode cX2_here 13 = .ok (.getfield 15, 3) := by decide +kernel
theorem dX2_here_16 : decode cX2_here 16 = .ok (.iload_n 1, 1) := by decide +kernel
theorem dX2_here_17 : decode cX2_here 17 = .ok (.iaload, 1) := by decide +kernel
theorem dX2_here_18 : decode cX2_here 18 = .ok (.iconst (-1), 1) := by decide +kernel
theorem dX2_here_19 : decode cX2_here 19 = .ok (.if_icmp .eq 7, 3) := by decide +kernel
theorem dX2_here_22 : decode cX2_here 22 = .ok (.iconst 1, 1) := by decide +kernel
theorem dX2_here_23 : decode cX2_here 23 = .ok (.goto 4, 3) := by decide +kernel
theorem dX2_here_26 : decode cX2_here 26 = .ok (.iconst 0, 1) := by decide +kernel
theorem dX2_here_27 : decode cX2_here 27 = .ok (.ireturn, 1) := by decide +kernel
theorem dX2_isSet_0 : decode cX2_isSet 0 = .ok (.iload_n 1, 1) := by decide +kernel
theorem dX2_isSet_1 : decode cX2_isSet 1 = .ok (.ifCond .lt 17, 3) := by decide +kernel
theorem dX2_isSet_4 : decode cX2_isSet 4 = .ok (.iload_n 1, 1) := by decide +kernel
theorem dX2_isSet_5 : decode cX2_isSet 5 = .ok (.iconst 1, 1) := by decide +kernel
theorem dX2_isSet_6 : decode cX2_isSet 6 = .ok (.aload_n 0, 1) := by decide +kernel
theorem dX2_isSet_7 : decode cX2_isSet 7 = .ok (.getfield 9, 3) := by decide +kernel
theorem dX2_isSet_10 : decode cX2_isSet 10 = .ok (.ishl, 1) := by decide +kernel
theorem dX2_isSet_11 : decode cX2_isSet 11 = .ok (.if_icmp .ge 7, 3) := by decide +kernel
theorem dX2_isSet_14 : decode cX2_isSet 14 = .ok (.iconst 1, 1) := by decide +kernel
theorem dX2_isSet_15 : decode cX2_isSet 15 = .ok (.goto 4, 3) := by decide +kernel
theorem dX2_isSet_18 : decode cX2_isSet 18 = .ok (.iconst 0, 1) := by decide +kernel
theorem dX2_isSet_19 : decode cX2_isSet 19 = .ok (.ireturn, 1) := by decide +kernel
theorem dX2_put_0 : decode cX2_put 0 = .ok (.aload_n 0, 1) := by decide +kernel
theorem dX2_put_1 : decode cX2_put 1 = .ok (.iload_n 1, 1) := by decide +kernel
theorem dX2_put_2 : decode cX2_put 2 = .ok (.invokevirtual 43, 3) := by decide +kernel
theorem dX2_put_5 : decode cX2_put 5 = .ok (.ifCond .eq 32, 3) := by decide +kernel
theorem dX2_put_8 : decode cX2_put 8 = .ok (.iload_n 2, 1) := by decide +kernel
theorem dX2_put_9 : decode cX2_put 9 = .ok (.ifCond .lt 28, 3) := by decide +kernel
theorem dX2_put_12 : decode cX2_put 12 = .ok (.iload_n 2, 1) := by decide +kernel
theorem dX2_put_13 : decode cX2_put 13 = .ok (.bipush 80, 2) := by decide +kernel
theorem dX2_put_15 : decode cX2_put 15 = .ok (.if_icmp .ge 22, 3) := by decide +kernel
theorem dX2_put_18 : decode cX2_put 18 = .ok (.aload_n 0, 1) := by decide +kernel
theorem dX2_put_19 : decode cX2_put 19 = .ok (.iload_n 1, 1) := by decide +kernel
theorem dX2_put_20 : decode cX2_put 20 = .ok (.invokevirtual 47, 3) := by decide +kernel
theorem dX2_put_23 : decode cX2_put 23 = .ok (.aload_n 0, 1) := by decide +kernel
theorem dX2_put_24 : decode cX2_put 24 = .ok (.getfield 15, 3) := by decide +kernel
theorem dX2_put_27 : decode cX2_put 27 = .ok (.iload_n 1, 1) := by decide +kernel
theorem dX2_put_28 : decode cX2_put 28 = .ok (.iload_n 2, 1) := by decide +kernel
theorem dX2_put_29 : decode cX2_put 29 = .ok (.iastore, 1) := by decide +kernel
theorem dX2_put_30 : decode cX2_put 30 = .ok (.aload_n 0, 1) := by decide +kernel
theorem dX2_put_31 : decode cX2_put 31 = .ok (.getfield 30, 3) := by decide +kernel
theorem dX2_put_34 : decode cX2_put 34 = .ok (.iload_n 2, 1) := by decide +kernel
theorem dX2_put_35 : decode cX2_put 35 = .ok (.iload_n 1, 1) := by decide +kernel
theorem dX2_put_36 : decode cX2_put 36 = .ok (.iastore, 1) := by decide +kernel
theorem dX2_put_37 : decode cX2_put 37 = .ok (.return_, 1) := by decide +kernel
theorem dX2_leave_0 : decode cX2_leave 0 = .ok (.aload_n 0, 1) := by decide +kernel
theorem dX2_leave_1 : decode cX2_leave 1 = .ok (.iload_n 1, 1) := by decide +kernel
theorem dX2_leave_2 : decode cX2_leave 2 = .ok (.invokevirtual 51, 3) := by decide +kernel
theorem dX2_leave_5 : decode cX2_leave 5 = .ok (.ifCond .eq 22, 3) := by decide +kernel
theorem dX2_leave_8 : decode cX2_leave 8 = .ok (.aload_n 0, 1) := by decide +kernel
theorem dX2_leave_9 : decode cX2_leave 9 = .ok (.getfield 30, 3) := by decide +kernel
theorem dX2_leave_12 : decode cX2_leave 12 = .ok (.aload_n 0, 1) := by decide +kernel
theorem dX2_leave_13 : decode cX2_leave 13 = .ok (.getfield 15, 3) := by decide +kernel
theorem dX2_leave_16 : decode cX2_leave 16 = .ok (.iload_n 1, 1) := by decide +kernel
theorem dX2_leave_17 : decode cX2_leave 17 = .ok (.iaload, 1) := by decide +kernel
theorem dX2_leave_18 : decode cX2_leave 18 = .ok (.iconst (-1), 1) := by decide +kernel
theorem dX2_leave_19 : decode cX2_leave 19 = .ok (.iastore, 1) := by decide +kernel
theorem dX2_leave_20 : decode cX2_leave 20 = .ok (.aload_n 0, 1) := by decide +kernel
theorem dX2_leave_21 : decode cX2_leave 21 = .ok (.getfield 15, 3) := by decide +kernel
theorem dX2_leave_24 : decode cX2_leave 24 = .ok (.iload_n 1, 1) := by decide +kernel
theorem dX2_leave_25 : decode cX2_leave 25 = .ok (.iconst (-1), 1) := by decide +kernel
theorem dX2_leave_26 : decode cX2_leave 26 = .ok (.iastore, 1) := by decide +kernel
theorem dX2_leave_27 : decode cX2_leave 27 = .ok (.return_, 1) := by decide +kernel
theorem dX2_swap_0 : decode cX2_swap 0 = .ok (.aload_n 0, 1) := by decide +kernel
theorem dX2_swap_1 : decode cX2_swap 1 = .ok (.iload_n 1, 1) := by decide +kernel
theorem dX2_swap_2 : decode cX2_swap 2 = .ok (.invokevirtual 51, 3) := by decide +kernel
theorem dX2_swap_5 : decode cX2_swap 5 = .ok (.ifCond .eq 44, 3) := by decide +kernel
theorem dX2_swap_8 : decode cX2_swap 8 = .ok (.aload_n 0, 1) := by decide +kernel
theorem dX2_swap_9 : decode cX2_swap 9 = .ok (.iload_n 2, 1) := by decide +kernel
theorem dX2_swap_10 : decode cX2_swap 10 = .ok (.invokevirtual 51, 3) := by decide +kernel
theorem dX2_swap_13 : decode cX2_swap 13 = .ok (.ifCond .eq 36, 3) := by decide +kernel
theorem dX2_swap_16 : decode cX2_swap 16 = .ok (.aload_n 0, 1) := by decide +kernel
theorem dX2_swap_17 : decode cX2_swap 17 = .ok (.getfield 15, 3) := by decide +kernel
theorem dX2_swap_20 : decode cX2_swap 20 = .ok (.iload_n 1, 1) := by decide +kernel
theorem dX2_swap_21 : decode cX2_swap 21 = .ok (.iaload, 1) := by decide +kernel
theorem dX2_swap_22 : decode cX2_swap 22 = .ok (.istore_n 3, 1) := by decide +kernel
theorem dX2_swap_23 : decode cX2_swap 23 = .ok (.aload_n 0, 1) := by decide +kernel
theorem dX2_swap_24 : decode cX2_swap 24 = .ok (.getfield 15, 3) := by decide +kernel
theorem dX2_swap_27 : decode cX2_swap 27 = .ok (.iload_n 2, 1) := by decide +kernel
theorem dX2_swap_28 : decode cX2_swap 28 = .ok (.iaload, 1) := by decide +kernel
theorem dX2_swap_29 : decode cX2_swap 29 = .ok (.istore 4, 2) := by decide +kernel
theorem dX2_swap_31 : decode cX2_swap 31 = .ok (.aload_n 0, 1) := by decide +kernel
theorem dX2_swap_32 : decode cX2_swap 32 = .ok (.iload_n 2, 1) := by decide +kernel
theorem dX2_swap_33 : decode cX2_swap 33 = .ok (.invokevirtual 47, 3) := by decide +kernel
theorem dX2_swap_36 : decode cX2_swap 36 = .ok (.aload_n 0, 1) := by decide +kernel
theorem dX2_swap_37 : decode cX2_swap 37 = .ok (.iload_n 1, 1) := by decide +kernel
theorem dX2_swap_38 : decode cX2_swap 38 = .ok (.iload 4, 2) := by decide +kernel
theorem dX2_swap_40 : decode cX2_swap 40 = .ok (.invokevirtual 39, 3) := by decide +kernel
theorem dX2_swap_43 : decode cX2_swap 43 = .ok (.aload_n 0, 1) := by decide +kernel
theorem dX2_swap_44 : decode cX2_swap 44 = .ok (.iload_n 2, 1) := by decide +kernel
theorem dX2_swap_45 : decode cX2_swap 45 = .ok (.iload_n 3, 1) := by decide +kernel
theorem dX2_swap_46 : decode cX2_swap 46 = .ok (.invokevirtual 39, 3) := by decide +kernel
theorem dX2_swap_49 : decode cX2_swap 49 = .ok (.return_, 1) := by decide +kernel
theorem dX2_copy_0 : decode cX2_copy 0 = .ok (.aload_n 0, 1) := by decide +kernel
theorem dX2_copy_1 : decode cX2_copy 1 = .ok (.aload_n 1, 1) := by decide +kernel
theorem dX2_copy_2 : decode cX2_copy 2 = .ok (.getfield 9, 3) := by decide +kernel
theorem dX2_copy_5 : decode cX2_copy 5 = .ok (.putfield 9, 3) := by decide +kernel
theorem dX2_copy_8 : decode cX2_copy 8 = .ok (.aload_n 1, 1) := by decide +kernel
theorem dX2_copy_9 : decode cX2_copy 9 = .ok (.getfield 15, 3) := by decide +kernel
theorem dX2_copy_12 : decode cX2_copy 12 = .ok (.iconst 0, 1) := by decide +kernel
theorem dX2_copy_13 : decode cX2_copy 13 = .ok (.aload_n 0, 1) := by decide +kernel
theorem dX2_copy_14 : decode cX2_copy 14 = .ok (.getfield 15, 3) := by decide +kernel
theorem dX2_copy_17 : decode cX2_copy 17 = .ok (.iconst 0, 1) := by decide +kernel
theorem dX2_copy_18 : decode cX2_copy 18 = .ok (.bipush 12, 2) := by decide +kernel
theorem dX2_copy_20 : decode cX2_copy 20 = .ok (.invokestatic 54, 3) := by decide +kernel
theorem dX2_copy_23 : decode cX2_copy 23 = .ok (.aload_n 1, 1) := by decide +kernel
theorem dX2_copy_24 : decode cX2_copy 24 = .ok (.getfield 19, 3) := by decide +kernel
theorem dX2_copy_27 : decode cX2_copy 27 = .ok (.iconst 0, 1) := by decide +kernel
theorem dX2_copy_28 : decode cX2_copy 28 = .ok (.aload_n 0, 1) := by decide +kernel
theorem dX2_copy_29 : decode cX2_copy 29 = .ok (.getfield 19, 3) := by decide +kernel
theorem dX2_copy_32 : decode cX2_copy 32 = .ok (.iconst 0, 1) := by decide +kernel
theorem dX2_copy_33 : decode cX2_copy 33 = .ok (.bipush 12, 2) := by decide +kernel
theorem dX2_copy_35 : decode cX2_copy 35 = .ok (.invokestatic 54, 3) := by decide +kernel
theorem dX2_copy_38 : decode cX2_copy 38 = .ok (.aload_n 1, 1) := by decide +kernel
theorem dX2_copy_39 : decode cX2_copy 39 = .ok (.getfield 22, 3) := by decide +kernel
theorem dX2_copy_42 : decode cX2_copy 42 = .ok (.iconst 0, 1) := by decide +kernel
theorem dX2_copy_43 : decode cX2_copy 43 = .ok (.aload_n 0, 1) := by decide +kernel
theorem dX2_copy_44 : decode cX2_copy 44 = .ok (.getfield 22, 3) := by decide +kernel
theorem dX2_copy_47 : decode cX2_copy 47 = .ok (.iconst 0, 1) := by decide +kernel
theorem dX2_copy_48 : decode cX2_copy 48 = .ok (.bipush 12, 2) := by decide +kernel
theorem dX2_copy_50 : decode cX2_copy 50 = .ok (.invokestatic 54, 3) := by decide +kernel
theorem dX2_copy_53 : decode cX2_copy 53 = .ok (.aload_n 1, 1) := by decide +kernel
theorem dX2_copy_54 : decode cX2_copy 54 = .ok (.getfield 25, 3) := by decide +kernel
theorem dX2_copy_57 : decode cX2_copy 57 = .ok (.iconst 0, 1) := by decide +kernel
theorem dX2_copy_58 : decode cX2_copy 58 = .ok (.aload_n 0, 1) := by decide +kernel
theorem dX2_copy_59 : decode cX2_copy 59 = .ok (.getfield 25, 3) := by decide +kernel
theorem dX2_copy_62 : decode cX2_copy 62 = .ok (.iconst 0, 1) := by decide +kernel
theorem dX2_copy_63 : decode cX2_copy 63 = .ok (.bipush 12, 2) := by decide +kernel
theorem dX2_copy_65 : decode cX2_copy 65 = .ok (.invokestatic 54, 3) := by decide +kernel
theorem dX2_copy_68 : decode cX2_copy 68 = .ok (.aload_n 1, 1) := by decide +kernel
theorem dX2_copy_69 : decode cX2_copy 69 = .ok (.getfield 30, 3) := by decide +kernel
theorem dX2_copy_72 : decode cX2_copy 72 = .ok (.iconst 0, 1) := by decide +kernel
theorem dX2_copy_73 : decode cX2_copy 73 = .ok (.aload_n 0, 1) := by decide +kernel
theorem dX2_copy_74 : decode cX2_copy 74 = .ok (.getfield 30, 3) := by decide +kernel
theorem dX2_copy_77 : decode cX2_copy 77 = .ok (.iconst 0, 1) := by decide +kernel
theorem dX2_copy_78 : decode cX2_copy 78 = .ok (.bipush 80, 2) := by decide +kernel
theorem dX2_copy_80 : decode cX2_copy 80 = .ok (.invokestatic 54, 3) := by decide +kernel
theorem dX2_copy_83 : decode cX2_copy 83 = .ok (.return_, 1) := by decide +kernel
theorem dX3_init_0 : decode cX3_init 0 = .ok (.aload_n 0, 1) := by decide +kernel
theorem dX3_init_1 : decode cX3_init 1 = .ok (.invokespecial 3, 3) := by decide +kernel
theorem dX3_init_4 : decode cX3_init 4 = .ok (.aload_n 0, 1) := by decide +kernel
theorem dX3_init_5 : decode cX3_init 5 = .ok (.iconst 0, 1) := by decide +kernel
theorem dX3_init_6 : decode cX3_init 6 = .ok (.putfield 9, 3) := by decide +kernel
theorem dX3_init_9 : decode cX3_init 9 = .ok (.aload_n 0, 1) := by decide +kernel
theorem dX3_init_10 : decode cX3_init 10 = .ok (.aload_n 1, 1) := by decide +kernel
theorem dX3_init_11 : decode cX3_init 11 = .ok (.putfield 15, 3) := by decide +kernel
theorem dX3_init_14 : decode cX3_init 14 = .ok (.aload_n 0, 1) := by decide +kernel
theorem dX3_init_15 : decode cX3_init 15 = .ok (.aload_n 2, 1) := by decide +kernel
theorem dX3_init_16 : decode cX3_init 16 = .ok (.putfield 19, 3) := by decide +kernel
theorem dX3_init_19 : decode cX3_init 19 = .ok (.return_, 1) := by decide +kernel
theorem dX3_read_0 : decode cX3_read 0 = .ok (.aload_n 0, 1) := by decide +kernel
theorem dX3_read_1 : decode cX3_read 1 = .ok (.getfield 15, 3) := by decide +kernel
theorem dX3_read_4 : decode cX3_read 4 = .ok (.invokevirtual 23, 3) := by decide +kernel
theorem dX3_read_7 : decode cX3_read 7 = .ok (.aload_n 0, 1) := by decide +kernel
theorem dX3_read_8 : decode cX3_read 8 = .ok (.getfield 19, 3) := by decide +kernel
theorem dX3_read_11 : decode cX3_read 11 = .ok (.invokevirtual 28, 3) := by decide +kernel
theorem dX3_read_14 : decode cX3_read 14 = .ok (.aload_n 0, 1) := by decide +kernel
theorem dX3_read_15 : decode cX3_read 15 = .ok (.iconst 0, 1) := by decide +kernel
theorem dX3_read_16 : decode cX3_read 16 = .ok (.putfield 9, 3) := by decide +kernel
theorem dX3_read_19 : decode cX3_read 19 = .ok (.iconst 1, 1) := by decide +kernel
theorem dX3_read_20 : decode cX3_read 20 = .ok (.istore_n 1, 1) := by decide +kernel
theorem dX3_read_21 : decode cX3_read 21 = .ok (.iconst 0, 1) := by decide +kernel
theorem dX3_read_22 : decode cX3_read 22 = .ok (.istore_n 2, 1) := by decide +kernel
theorem dX3_read_23 : decode cX3_read 23 = .ok (.iload_n 1, 1) := by decide +kernel
theorem dX3_read_24 : decode cX3_read 24 = .ok (.ifCond .eq 28, 3) := by decide +kernel
theorem dX3_read_27 : decode cX3_read 27 = .ok (.iload_n 2, 1) := by decide +kernel
theorem dX3_read_28 : decode cX3_read 28 = .ok (.bipush 32, 2) := by decide +kernel
theorem dX3_read_30 : decode cX3_read 30 = .ok (.if_icmp .gt 22, 3) := by decide +kernel
theorem dX3_read_33 : decode cX3_read 33 = .ok (.aload_n 0, 1) := by decide +kernel
theorem dX3_read_34 : decode cX3_read 34 = .ok (.iload_n 2, 1) := by decide +kernel
theorem dX3_read_35 : decode cX3_read 35 = .ok (.invokevirtual 33, 3) := by decide +kernel
theorem dX3_read_38 : decode cX3_read 38 = .ok (.aload_n 0, 1) := by decide +kernel
theorem dX3_read_39 : decode cX3_read 39 = .ok (.getfield 15, 3) := by decide +kernel
theorem dX3_read_42 : decode cX3_read 42 = .ok (.invokevirtual 37, 3) := by decide +kernel
theorem dX3_read_45 : decode cX3_read 45 = .ok (.istore_n 1, 1) := by decide +kernel
theorem dX3_read_46 : decode cX3_read 46 = .ok (.iinc 2 1, 3) := by decide +kernel
theorem dX3_read_49 : decode cX3_read 49 = .ok (.goto (-26), 3) := by decide +kernel
theorem dX3_read_52 : decode cX3_read 52 = .ok (.aload_n 0, 1) := by decide +kernel
theorem dX3_read_53 : decode cX3_read 53 = .ok (.getfield 19, 3) := by decide +kernel
theorem dX3_read_56 : decode cX3_read 56 = .ok (.getfield 41, 3) := by decide +kernel
theorem dX3_read_59 : decode cX3_read 59 = .ok (.aload_n 0, 1) := by decide +kernel
theorem dX3_read_60 : decode cX3_read 60 = .ok (.getfield 19, 3) := by decide +kernel
theorem dX3_read_63 : decode cX3_read 63 = .ok (.invokevirtual 45, 3) := by decide +kernel
theorem dX3_read_66 : decode cX3_read 66 = .ok (.putfield 49, 3) := by decide +kernel
theorem dX3_read_69 : decode cX3_read 69 = .ok (.return_, 1) := by decide +kernel
theorem dX3_readClause_0 : decode cX3_readClause 0 = .ok (.aload_n 0, 1) := by decide +kernel
theorem dX3_readClause_1 : decode cX3_readClause 1 = .ok (.getfield 15, 3) := by decide +kernel
theorem dX3_readClause_4 : decode cX3_readClause 4 = .ok (.ldc 55, 2) := by decide +kernel
theorem dX3_readClause_6 : decode cX3_readClause 6 = .ok (.invokevirtual 57, 3) := by decide +kernel
theorem dX3_readClause_9 : decode cX3_readClause 9 = .ok (.istore_n 2, 1) := by decide +kernel
theorem dX3_readClause_10 : decode cX3_readClause 10 = .ok (.iload_n 2, 1) := by decide +kernel
theorem dX3_readClause_11 : decode cX3_readClause 11 = .ok (.iconst (-1), 1) := by decide +kernel
theorem dX3_readClause_12 : decode cX3_readClause 12 = .ok (.if_icmp .ne 19, 3) := by decide +kernel
theorem dX3_readClause_15 : decode cX3_readClause 15 = .ok (.aload_n 0, 1) := by decide +kernel
theorem dX3_readClause_16 : decode cX3_readClause 16 = .ok (.getfield 15, 3) := by decide +kernel
theorem dX3_readClause_19 : decode cX3_readClause 19 = .ok (.iconst 0, 1) := by decide +kernel
theorem dX3_readClause_20 : decode cX3_readClause 20 = .ok (.aload_n 0, 1) := by decide +kernel
theorem dX3_readClause_21 : decode cX3_readClause 21 = .ok (.getfield 15, 3) := by decide +kernel
theorem dX3_readClause_24 : decode cX3_readClause 24 = .ok (.getfield 61, 3) := by decide +kernel
theorem dX3_readClause_27 : decode cX3_readClause 27 = .ok (.invokevirtual 64, 3) := by decide +kernel
theorem dX3_readClause_30 : decode cX3_readClause 30 = .ok (.return_, 1) := by decide +kernel
theorem dX3_readClause_31 : decode cX3_readClause 31 = .ok (.iload_n 1, 1) := by decide +kernel
theorem dX3_readClause_32 : decode cX3_readClause 32 = .ok (.bipush 32, 2) := by decide +kernel
theorem dX3_readClause_34 : decode cX3_readClause 34 = .ok (.if_icmp .ge 32, 3) := by decide +kernel
theorem dX3_readClause_37 : decode cX3_readClause 37 = .ok (.iload_n 2, 1) := by decide +kernel
theorem dX3_readClause_38 : decode cX3_readClause 38 = .ok (.ifCond .ne 7, 3) := by decide +kernel
theorem dX3_readClause_41 : decode cX3_readClause 41 = .ok (.iconst 1, 1) := by decide +kernel
theorem dX3_readClause_42 : decode cX3_readClause 42 = .ok (.goto 4, 3) := by decide +kernel
theorem dX3_readClause_45 : decode cX3_readClause 45 = .ok (.iconst 0, 1) := by decide +kernel
theorem dX3_readClause_46 : decode cX3_readClause 46 = .ok (.iload_n 1, 1) := by decide +kernel
theorem dX3_readClause_47 : decode cX3_readClause 47 = .ok (.ifCond .ne 7, 3) := by decide +kernel
theorem dX3_readClause_50 : decode cX3_readClause 50 = .ok (.iconst 1, 1) := by decide +kernel
theorem dX3_readClause_51 : decode cX3_readClause 51 = .ok (.goto 4, 3) := by decide +kernel
theorem dX3_readClause_54 : decode cX3_readClause 54 = .ok (.iconst 0, 1) := by decide +kernel
theorem dX3_readClause_55 : decode cX3_readClause 55 = .ok (.if_icmp .ne 11, 3) := by decide +kernel
theorem dX3_readClause_58 : decode cX3_readClause 58 = .ok (.aload_n 0, 1) := by decide +kernel
theorem dX3_readClause_59 : decode cX3_readClause 59 = .ok (.iload_n 2, 1) := by decide +kernel
theorem dX3_readClause_60 : decode cX3_readClause 60 = .ok (.invokevirtual 68, 3) := by decide +kernel
theorem dX3_readClause_63 : decode cX3_readClause 63 = .ok (.ifCond .eq 19, 3) := by decide +kernel
theorem dX3_readClause_66 : decode cX3_readClause 66 = .ok (.aload_n 0, 1) := by decide +kernel
theorem dX3_readClause_67 : decode cX3_readClause 67 = .ok (.getfield 15, 3) := by decide +kernel
theorem dX3_readClause_70 : decode cX3_readClause 70 = .ok (.iconst 4, 1) := by decide +kernel
theorem dX3_readClause_71 : decode cX3_readClause 71 = .ok (.aload_n 0, 1) := by decide +kernel
theorem dX3_readClause_72 : decode cX3_readClause 72 = .ok (.getfield 15, 3) := by decide +kernel
theorem dX3_readClause_75 : decode cX3_readClause 75 = .ok (.getfield 61, 3) := by decide +kernel
theorem dX3_readClause_78 : decode cX3_readClause 78 = .ok (.invokevirtual 64, 3) := by decide +kernel
theorem dX3_readClause_81 : decode cX3_readClause 81 = .ok (.return_, 1) := by decide +kernel
theorem dX3_readClause_82 : decode cX3_readClause 82 = .ok (.aload_n 0, 1) := by decide +kernel
theorem dX3_readClause_83 : decode cX3_readClause 83 = .ok (.getfield 15, 3) := by decide +kernel
theorem dX3_readClause_86 : decode cX3_readClause 86 = .ok (.invokevirtual 72, 3) := by decide +kernel
theorem dX3_readClause_89 : decode cX3_readClause 89 = .ok (.iload_n 2, 1) := by decide +kernel
theorem dX3_readClause_90 : decode cX3_readClause 90 = .ok (.tableswitch 69 0 4 #[34, 41, 48, 55, 62], 34) := by decide +kernel
theorem dX3_readClause_124 : decode cX3_readClause 124 = .ok (.aload_n 0, 1) := by decide +kernel
theorem dX3_readClause_125 : decode cX3_readClause 125 = .ok (.invokevirtual 75, 3) := by decide +kernel
theorem dX3_readClause_128 : decode cX3_readClause 128 = .ok (.goto 35, 3) := by decide +kernel
theorem dX3_readClause_131 : decode cX3_readClause 131 = .ok (.aload_n 0, 1) := by decide +kernel
theorem dX3_readClause_132 : decode cX3_readClause 132 = .ok (.invokevirtual 78, 3) := by decide +kernel
theorem dX3_readClause_135 : decode cX3_readClause 135 = .ok (.goto 28, 3) := by decide +kernel
theorem dX3_readClause_138 : decode cX3_readClause 138 = .ok (.aload_n 0, 1) := by decide +kernel
theorem dX3_readClause_139 : decode cX3_readClause 139 = .ok (.invokevirtual 81, 3) := by decide +kernel
theorem dX3_readClause_142 : decode cX3_readClause 142 = .ok (.goto 21, 3) := by decide +kernel
theorem dX3_readClause_145 : decode cX3_readClause 145 = .ok (.aload_n 0, 1) := by decide +kernel
theorem dX3_readClause_146 : decode cX3_readClause 146 = .ok (.invokevirtual 84, 3) := by decide +kernel
theorem dX3_readClause_149 : decode cX3_readClause 149 = .ok (.goto 14, 3) := by decide +kernel
theorem dX3_readClause_152 : decode cX3_readClause 152 = .ok (.aload_n 0, 1) := by decide +kernel
theorem dX3_readClause_153 : decode cX3_readClause 153 = .ok (.invokevirtual 87, 3) := by decide +kernel
theorem dX3_readClause_156 : decode cX3_readClause 156 = .ok (.goto 7, 3) := by decide +kernel
theorem dX3_readClause_159 : decode cX3_readClause 159 = .ok (.aload_n 0, 1) := by decide +kernel
theorem dX3_readClause_160 : decode cX3_readClause 160 = .ok (.invokevirtual 90, 3) := by decide +kernel
theorem dX3_readClause_163 : decode cX3_readClause 163 = .ok (.return_, 1) := by decide +kernel
theorem dX3_isFull_0 : decode cX3_isFull 0 = .ok (.iload_n 1, 1) := by decide +kernel
theorem dX3_isFull_1 : decode cX3_isFull 1 = .ok (.tableswitch 99 1 4 #[31, 52, 73, 94], 31) := by decide +kernel
theorem dX3_isFull_32 : decode cX3_isFull 32 = .ok (.aload_n 0, 1) := by decide +kernel
theorem dX3_isFull_33 : decode cX3_isFull 33 = .ok (.getfield 19, 3) := by decide +kernel
theorem dX3_isFull_36 : decode cX3_isFull 36 = .ok (.getfield 93, 3) := by decide +kernel
theorem dX3_isFull_39 : decode cX3_isFull 39 = .ok (.getfield 97, 3) := by decide +kernel
theorem dX3_isFull_42 : decode cX3_isFull 42 = .ok (.bipush 12, 2) := by decide +kernel
theorem dX3_isFull_44 : decode cX3_isFull 44 = .ok (.if_icmp .lt 7, 3) := by decide +kernel
theorem dX3_isFull_47 : decode cX3_isFull 47 = .ok (.iconst 1, 1) := by decide +kernel
theorem dX3_isFull_48 : decode cX3_isFull 48 = .ok (.goto 4, 3) := by decide +kernel
theorem dX3_isFull_51 : decode cX3_isFull 51 = .ok (.iconst 0, 1) := by decide +kernel
theorem dX3_isFull_52 : decode cX3_isFull 52 = .ok (.ireturn, 1) := by decide +kernel
theorem dX3_isFull_53 : decode cX3_isFull 53 = .ok (.aload_n 0, 1) := by decide +kernel
theorem dX3_isFull_54 : decode cX3_isFull 54 = .ok (.getfield 19, 3) := by decide +kernel
theorem dX3_isFull_57 : decode cX3_isFull 57 = .ok (.getfield 41, 3) := by decide +kernel
theorem dX3_isFull_60 : decode cX3_isFull 60 = .ok (.getfield 102, 3) := by decide +kernel
theorem dX3_isFull_63 : decode cX3_isFull 63 = .ok (.bipush 6, 2) := by decide +kernel
theorem dX3_isFull_65 : decode cX3_isFull 65 = .ok (.if_icmp .lt 7, 3) := by decide +kernel
theorem dX3_isFull_68 : decode cX3_isFull 68 = .ok (.iconst 1, 1) := by decide +kernel
theorem dX3_isFull_69 : decode cX3_isFull 69 = .ok (.goto 4, 3) := by decide +kernel
theorem dX3_isFull_72 : decode cX3_isFull 72 = .ok (.iconst 0, 1) := by decide +kernel
theorem dX3_isFull_73 : decode cX3_isFull 73 = .ok (.ireturn, 1) := by decide +kernel
theorem dX3_isFull_74 : decode cX3_isFull 74 = .ok (.aload_n 0, 1) := by decide +kernel
theorem dX3_isFull_75 : decode cX3_isFull 75 = .ok (.getfield 19, 3) := by decide +kernel
theorem dX3_isFull_78 : decode cX3_isFull 78 = .ok (.getfield 41, 3) := by decide +kernel
theorem dX3_isFull_81 : decode cX3_isFull 81 = .ok (.getfield 105, 3) := by decide +kernel
theorem dX3_isFull_84 : decode cX3_isFull 84 = .ok (.bipush 8, 2) := by decide +kernel
theorem dX3_isFull_86 : decode cX3_isFull 86 = .ok (.if_icmp .lt 7, 3) := by decide +kernel
theorem dX3_isFull_89 : decode cX3_isFull 89 = .ok (.iconst 1, 1) := by decide +kernel
theorem dX3_isFull_90 : decode cX3_isFull 90 = .ok (.goto 4, 3) := by decide +kernel
theorem dX3_isFull_93 : decode cX3_isFull 93 = .ok (.iconst 0, 1) := by decide +kernel
theorem dX3_isFull_94 : decode cX3_isFull 94 = .ok (.ireturn, 1) := by decide +kernel
theorem dX3_isFull_95 : decode cX3_isFull 95 = .ok (.aload_n 0, 1) := by decide +kernel
theorem dX3_isFull_96 : decode cX3_isFull 96 = .ok (.getfield 9, 3) := by decide +kernel
theorem dX3_isFull_99 : decode cX3_isFull 99 = .ok (.ireturn, 1) := by decide +kernel
theorem dX3_isFull_100 : decode cX3_isFull 100 = .ok (.iconst 0, 1) := by decide +kernel
theorem dX3_isFull_101 : decode cX3_isFull 101 = .ok (.ireturn, 1) := by decide +kernel
theorem dX3_readSize_0 : decode cX3_readSize 0 = .ok (.aload_n 0, 1) := by decide +kernel
theorem dX3_readSize_1 : decode cX3_readSize 1 = .ok (.getfield 15, 3) := by decide +kernel
theorem dX3_readSize_4 : decode cX3_readSize 4 = .ok (.iconst 1, 1) := by decide +kernel
theorem dX3_readSize_5 : decode cX3_readSize 5 = .ok (.bipush 10, 2) := by decide +kernel
theorem dX3_readSize_7 : decode cX3_readSize 7 = .ok (.invokevirtual 108, 3) := by decide +kernel
theorem dX3_readSize_10 : decode cX3_readSize 10 = .ok (.istore_n 1, 1) := by decide +kernel
theorem dX3_readSize_11 : decode cX3_readSize 11 = .ok (.aload_n 0, 1) := by decide +kernel
theorem dX3_readSize_12 : decode cX3_readSize 12 = .ok (.iconst 1, 1) := by decide +kernel
theorem dX3_readSize_13 : decode cX3_readSize 13 = .ok (.bipush 8, 2) := by decide +kernel
theorem dX3_readSize_15 : decode cX3_readSize 15 = .ok (.invokevirtual 111, 3) := by decide +kernel
theorem dX3_readSize_18 : decode cX3_readSize 18 = .ok (.istore_n 2, 1) := by decide +kernel
theorem dX3_readSize_19 : decode cX3_readSize 19 = .ok (.aload_n 0, 1) := by decide +kernel
theorem dX3_readSize_20 : decode cX3_readSize 20 = .ok (.getfield 15, 3) := by decide +kernel
theorem dX3_readSize_23 : decode cX3_readSize 23 = .ok (.invokevirtual 114, 3) := by decide +kernel
theorem dX3_readSize_26 : decode cX3_readSize 26 = .ok (.ifCond .ne 15, 3) := by decide +kernel
theorem dX3_readSize_29 : decode cX3_readSize 29 = .ok (.aload_n 0, 1) := by decide +kernel
theorem dX3_readSize_30 : decode cX3_readSize 30 = .ok (.getfield 19, 3) := by decide +kernel
theorem dX3_readSize_33 : decode cX3_readSize 33 = .ok (.getfield 41, 3) := by decide +kernel
theorem dX3_readSize_36 : decode cX3_readSize 36 = .ok (.iload_n 1, 1) := by decide +kernel
theorem dX3_readSize_37 : decode cX3_readSize 37 = .ok (.iload_n 2, 1) := by decide +kernel
theorem dX3_readSize_38 : decode cX3_readSize 38 = .ok (.invokevirtual 117, 3) := by decide +kernel
theorem dX3_readSize_41 : decode cX3_readSize 41 = .ok (.return_, 1) := by decide +kernel
theorem dX3_readGuest_0 : decode cX3_readGuest 0 = .ok (.aload_n 0, 1) := by decide +kernel
theorem dX3_readGuest_1 : decode cX3_readGuest 1 = .ok (.getfield 15, 3) := by decide +kernel
theorem dX3_readGuest_4 : decode cX3_readGuest 4 = .ok (.invokevirtual 120, 3) := by decide +kernel
theorem dX3_readGuest_7 : decode cX3_readGuest 7 = .ok (.pop, 1) := by decide +kernel
theorem dX3_readGuest_8 : decode cX3_readGuest 8 = .ok (.aload_n 0, 1) := by decide +kernel
theorem dX3_readGuest_9 : decode cX3_readGuest 9 = .ok (.getfield 15, 3) := by decide +kernel
theorem dX3_readGuest_12 : decode cX3_readGuest 12 = .ok (.getfield 61, 3) := by decide +kernel
theorem dX3_readGuest_15 : decode cX3_readGuest 15 = .ok (.istore_n 1, 1) := by decide +kernel
theorem dX3_readGuest_16 : decode cX3_readGuest 16 = .ok (.aload_n 0, 1) := by decide +kernel
theorem dX3_readGuest_17 : decode cX3_readGuest 17 = .ok (.invokevirtual 123, 3) := by decide +kernel
theorem dX3_readGuest_20 : decode cX3_readGuest 20 = .ok (.istore_n 2, 1) := by decide +kernel
theorem dX3_readGuest_21 : decode cX3_readGuest 21 = .ok (.iload_n 2, 1) := by decide +kernel
theorem dX3_readGuest_22 : decode cX3_readGuest 22 = .ok (.iconst (-1), 1) := by decide +kernel
theorem dX3_readGuest_23 : decode cX3_readGuest 23 = .ok (.if_icmp .eq 28, 3) := by decide +kernel
theorem dX3_readGuest_26 : decode cX3_readGuest 26 = .ok (.aload_n 0, 1) := by decide +kernel
theorem dX3_readGuest_27 : decode cX3_readGuest 27 = .ok (.getfield 19, 3) := by decide +kernel
theorem dX3_readGuest_30 : decode cX3_readGuest 30 = .ok (.getfield 93, 3) := by decide +kernel
theorem dX3_readGuest_33 : decode cX3_readGuest 33 = .ok (.getfield 126, 3) := by decide +kernel
theorem dX3_readGuest_36 : decode cX3_readGuest 36 = .ok (.iload_n 2, 1) := by decide +kernel
theorem dX3_readGuest_37 : decode cX3_readGuest 37 = .ok (.iaload, 1) := by decide +kernel
theorem dX3_readGuest_38 : decode cX3_readGuest 38 = .ok (.iconst (-1), 1) := by decide +kernel
theorem dX3_readGuest_39 : decode cX3_readGuest 39 = .ok (.if_icmp .eq 12, 3) := by decide +kernel
theorem dX3_readGuest_42 : decode cX3_readGuest 42 = .ok (.aload_n 0, 1) := by decide +kernel
theorem dX3_readGuest_43 : decode cX3_readGuest 43 = .ok (.getfield 15, 3) := by decide +kernel
theorem dX3_readGuest_46 : decode cX3_readGuest 46 = .ok (.iconst 5, 1) := by decide +kernel
theorem dX3_readGuest_47 : decode cX3_readGuest 47 = .ok (.iload_n 1, 1) := by decide +kernel
theorem dX3_readGuest_48 : decode cX3_readGuest 48 = .ok (.invokevirtual 64, 3) := by decide +kernel
theorem dX3_readGuest_51 : decode cX3_readGuest 51 = .ok (.aload_n 0, 1) := by decide +kernel
theorem dX3_readGuest_52 : decode cX3_readGuest 52 = .ok (.iconst 0, 1) := by decide +kernel
theorem dX3_readGuest_53 : decode cX3_readGuest 53 = .ok (.bipush 99, 2) := by decide +kernel
theorem dX3_readGuest_55 : decode cX3_readGuest 55 = .ok (.invokevirtual 111, 3) := by decide +kernel
theorem dX3_readGuest_58 : decode cX3_readGuest 58 = .ok (.istore_n 3, 1) := by decide +kernel
theorem dX3_readGuest_59 : decode cX3_readGuest 59 = .ok (.aload_n 0, 1) := by decide +kernel
theorem dX3_readGuest_60 : decode cX3_readGuest 60 = .ok (.iconst 0, 1) := by decide +kernel
theorem dX3_readGuest_61 : decode cX3_readGuest 61 = .ok (.bipush 9, 2) := by decide +kernel
theorem dX3_readGuest_63 : decode cX3_readGuest 63 = .ok (.invokevirtual 111, 3) := by decide +kernel
theorem dX3_readGuest_66 : decode cX3_readGuest 66 = .ok (.istore 4, 2) := by decide +kernel
theorem dX3_readGuest_68 : decode cX3_readGuest 68 = .ok (.aload_n 0, 1) := by decide +kernel
theorem dX3_readGuest_69 : decode cX3_readGuest 69 = .ok (.getfield 15, 3) := by decide +kernel
theorem dX3_readGuest_72 : decode cX3_readGuest 72 = .ok (.invokevirtual 114, 3) := by decide +kernel
theorem dX3_readGuest_75 : decode cX3_readGuest 75 = .ok (.ifCond .ne 17, 3) := by decide +kernel
theorem dX3_readGuest_78 : decode cX3_readGuest 78 = .ok (.aload_n 0, 1) := by decide +kernel
theorem dX3_readGuest_79 : decode cX3_readGuest 79 = .ok (.getfield 19, 3) := by decide +kernel
theorem dX3_readGuest_82 : decode cX3_readGuest 82 = .ok (.getfield 93, 3) := by decide +kernel
theorem dX3_readGuest_85 : decode cX3_readGuest 85 = .ok (.iload_n 2, 1) := by decide +kernel
theorem dX3_readGuest_86 : decode cX3_readGuest 86 = .ok (.iload_n 3, 1) := by decide +kernel
theorem dX3_readGuest_87 : decode cX3_readGuest 87 = .ok (.iload 4, 2) := by decide +kernel
theorem dX3_readGuest_89 : decode cX3_readGuest 89 = .ok (.invokevirtual 130, 3) := by decide +kernel
theorem dX3_readGuest_92 : decode cX3_readGuest 92 = .ok (.return_, 1) := by decide +kernel
theorem dX3_readFan_0 : decode cX3_readFan 0 = .ok (.aload_n 0, 1) := by decide +kernel
theorem dX3_readFan_1 : decode cX3_readFan 1 = .ok (.invokevirtual 123, 3) := by decide +kernel
theorem dX3_readFan_4 : decode cX3_readFan 4 = .ok (.istore_n 1, 1) := by decide +kernel
theorem dX3_readFan_5 : decode cX3_readFan 5 = .ok (.aload_n 0, 1) := by decide +kernel
theorem dX3_readFan_6 : decode cX3_readFan 6 = .ok (.iconst 1, 1) := by decide +kernel
theorem dX3_readFan_7 : decode cX3_readFan 7 = .ok (.iconst 4, 1) := by decide +kernel
theorem dX3_readFan_8 : decode cX3_readFan 8 = .ok (.invokevirtual 111, 3) := by decide +kernel
theorem dX3_readFan_11 : decode cX3_readFan 11 = .ok (.istore_n 2, 1) := by decide +kernel
theorem dX3_readFan_12 : decode cX3_readFan 12 = .ok (.aload_n 0, 1) := by decide +kernel
theorem dX3_readFan_13 : decode cX3_readFan 13 = .ok (.iconst 1, 1) := by decide +kernel
theorem dX3_readFan_14 : decode cX3_readFan 14 = .ok (.bipush 99, 2) := by decide +kernel
theorem dX3_readFan_16 : decode cX3_readFan 16 = .ok (.invokevirtual 111, 3) := by decide +kernel
theorem dX3_readFan_19 : decode cX3_readFan 19 = .ok (.istore_n 3, 1) := by decide +kernel
theorem dX3_readFan_20 : decode cX3_readFan 20 = .ok (.aload_n 0, 1) := by decide +kernel
theorem dX3_readFan_21 : decode cX3_readFan 21 = .ok (.getfield 15, 3) := by decide +kernel
theorem dX3_readFan_24 : decode cX3_readFan 24 = .ok (.invokevirtual 114, 3) := by decide +kernel
theorem dX3_readFan_27 : decode cX3_readFan 27 = .ok (.ifCond .ne 16, 3) := by decide +kernel
theorem dX3_readFan_30 : decode cX3_readFan 30 = .ok (.aload_n 0, 1) := by decide +kernel
theorem dX3_readFan_31 : decode cX3_readFan 31 = .ok (.getfield 19, 3) := by decide +kernel
theorem dX3_readFan_34 : decode cX3_readFan 34 = .ok (.getfield 41, 3) := by decide +kernel
theorem dX3_readFan_37 : decode cX3_readFan 37 = .ok (.iload_n 1, 1) := by decide +kernel
theorem dX3_readFan_38 : decode cX3_readFan 38 = .ok (.iload_n 2, 1) := by decide +kernel
theorem dX3_readFan_39 : decode cX3_readFan 39 = .ok (.iload_n 3, 1) := by decide +kernel
theorem dX3_readFan_40 : decode cX3_readFan 40 = .ok (.invokevirtual 134, 3) := by decide +kernel
theorem dX3_readFan_43 : decode cX3_readFan 43 = .ok (.return_, 1) := by decide +kernel
theorem dX3_readSnow_0 : decode cX3_readSnow 0 = .ok (.aload_n 0, 1) := by decide +kernel
theorem dX3_readSnow_1 : decode cX3_readSnow 1 = .ok (.invokevirtual 123, 3) := by decide +kernel
theorem dX3_readSnow_4 : decode cX3_readSnow 4 = .ok (.istore_n 1, 1) := by decide +kernel
theorem dX3_readSnow_5 : decode cX3_readSnow 5 = .ok (.aload_n 0, 1) := by decide +kernel
theorem dX3_readSnow_6 : decode cX3_readSnow 6 = .ok (.iconst 1, 1) := by decide +kernel
theorem dX3_readSnow_7 : decode cX3_readSnow 7 = .ok (.bipush 99, 2) := by decide +kernel
theorem dX3_readSnow_9 : decode cX3_readSnow 9 = .ok (.invokevirtual 111, 3) := by decide +kernel
theorem dX3_readSnow_12 : decode cX3_readSnow 12 = .ok (.istore_n 2, 1) := by decide +kernel
theorem dX3_readSnow_13 : decode cX3_readSnow 13 = .ok (.aload_n 0, 1) := by decide +kernel
theorem dX3_readSnow_14 : decode cX3_readSnow 14 = .ok (.getfield 15, 3) := by decide +kernel
theorem dX3_readSnow_17 : decode cX3_readSnow 17 = .ok (.invokevirtual 114, 3) := by decide +kernel
theorem dX3_readSnow_20 : decode cX3_readSnow 20 = .ok (.ifCond .ne 15, 3) := by decide +kernel
theorem dX3_readSnow_23 : decode cX3_readSnow 23 = .ok (.aload_n 0, 1) := by decide +kernel
theorem dX3_readSnow_24 : decode cX3_readSnow 24 = .ok (.getfield 19, 3) := by decide +kernel
theorem dX3_readSnow_27 : decode cX3_readSnow 27 = .ok (.getfield 41, 3) := by decide +kernel
theorem dX3_readSnow_30 : decode cX3_readSnow 30 = .ok (.iload_n 1, 1) := by decide +kernel
theorem dX3_readSnow_31 : decode cX3_readSnow 31 = .ok (.iload_n 2, 1) := by decide +kernel
theorem dX3_readSnow_32 : decode cX3_readSnow 32 = .ok (.invokevirtual 137, 3) := by decide +kernel
theorem dX3_readSnow_35 : decode cX3_readSnow 35 = .ok (.return_, 1) := by decide +kernel
theorem dX3_readSpot_0 : decode cX3_readSpot 0 = .ok (.aload_n 0, 1) := by decide +kernel
theorem dX3_readSpot_1 : decode cX3_readSpot 1 = .ok (.invokevirtual 123, 3) := by decide +kernel
theorem dX3_readSpot_4 : decode cX3_readSpot 4 = .ok (.istore_n 1, 1) := by decide +kernel
theorem dX3_readSpot_5 : decode cX3_readSpot 5 = .ok (.iload_n 1, 1) := by decide +kernel
theorem dX3_readSpot_6 : decode cX3_readSpot 6 = .ok (.iconst (-1), 1) := by decide +kernel
theorem dX3_readSpot_7 : decode cX3_readSpot 7 = .ok (.if_icmp .eq 11, 3) := by decide +kernel
theorem dX3_readSpot_10 : decode cX3_readSpot 10 = .ok (.aload_n 0, 1) := by decide +kernel
theorem dX3_readSpot_11 : decode cX3_readSpot 11 = .ok (.getfield 19, 3) := by decide +kernel
theorem dX3_readSpot_14 : decode cX3_readSpot 14 = .ok (.iload_n 1, 1) := by decide +kernel
theorem dX3_readSpot_15 : decode cX3_readSpot 15 = .ok (.putfield 140, 3) := by decide +kernel
theorem dX3_readSpot_18 : decode cX3_readSpot 18 = .ok (.aload_n 0, 1) := by decide +kernel
theorem dX3_readSpot_19 : decode cX3_readSpot 19 = .ok (.iconst 1, 1) := by decide +kernel
theorem dX3_readSpot_20 : decode cX3_readSpot 20 = .ok (.putfield 9, 3) := by decide +kernel
theorem dX3_readSpot_23 : decode cX3_readSpot 23 = .ok (.return_, 1) := by decide +kernel
theorem dX3_readHeat_0 : decode cX3_readHeat 0 = .ok (.aload_n 0, 1) := by decide +kernel
theorem dX3_readHeat_1 : decode cX3_readHeat 1 = .ok (.invokevirtual 123, 3) := by decide +kernel
theorem dX3_readHeat_4 : decode cX3_readHeat 4 = .ok (.istore_n 1, 1) := by decide +kernel
theorem dX3_readHeat_5 : decode cX3_readHeat 5 = .ok (.aload_n 0, 1) := by decide +kernel
theorem dX3_readHeat_6 : decode cX3_readHeat 6 = .ok (.iconst 0, 1) := by decide +kernel
theorem dX3_readHeat_7 : decode cX3_readHeat 7 = .ok (.sipush 9999, 3) := by decide +kernel
theorem dX3_readHeat_10 : decode cX3_readHeat 10 = .ok (.invokevirtual 111, 3) := by decide +kernel
theorem dX3_readHeat_13 : decode cX3_readHeat 13 = .ok (.istore_n 2, 1) := by decide +kernel
theorem dX3_readHeat_14 : decode cX3_readHeat 14 = .ok (.aload_n 0, 1) := by decide +kernel
theorem dX3_readHeat_15 : decode cX3_readHeat 15 = .ok (.getfield 15, 3) := by decide +kernel
theorem dX3_readHeat_18 : decode cX3_readHeat 18 = .ok (.invokevirtual 114, 3) := by decide +kernel
theorem dX3_readHeat_21 : decode cX3_readHeat 21 = .ok (.ifCond .ne 18, 3) := by decide +kernel
theorem dX3_readHeat_24 : decode cX3_readHeat 24 = .ok (.iload_n 1, 1) := by decide +kernel
theorem dX3_readHeat_25 : decode cX3_readHeat 25 = .ok (.iconst (-1), 1) := by decide +kernel
theorem dX3_readHeat_26 : decode cX3_readHeat 26 = .ok (.if_icmp .eq 13, 3) := by decide +kernel
theorem dX3_readHeat_29 : decode cX3_readHeat 29 = .ok (.aload_n 0, 1) := by decide +kernel
theorem dX3_readHeat_30 : decode cX3_readHeat 30 = .ok (.getfield 19, 3) := by decide +kernel
theorem dX3_readHeat_33 : decode cX3_readHeat 33 = .ok (.getfield 143, 3) := by decide +kernel
theorem dX3_readHeat_36 : decode cX3_readHeat 36 = .ok (.iload_n 1, 1) := by decide +kernel
theorem dX3_readHeat_37 : decode cX3_readHeat 37 = .ok (.iload_n 2, 1) := by decide +kernel
theorem dX3_readHeat_38 : decode cX3_readHeat 38 = .ok (.iastore, 1) := by decide +kernel
theorem dX3_readHeat_39 : decode cX3_readHeat 39 = .ok (.return_, 1) := by decide +kernel
theorem dX3_readSeat_0 : decode cX3_readSeat 0 = .ok (.aload_n 0, 1) := by decide +kernel
theorem dX3_readSeat_1 : decode cX3_readSeat 1 = .ok (.iconst 0, 1) := by decide +kernel
theorem dX3_readSeat_2 : decode cX3_readSeat 2 = .ok (.aload_n 0, 1) := by decide +kernel
theorem dX3_readSeat_3 : decode cX3_readSeat 3 = .ok (.getfield 19, 3) := by decide +kernel
theorem dX3_readSeat_6 : decode cX3_readSeat 6 = .ok (.getfield 41, 3) := by decide +kernel
theorem dX3_readSeat_9 : decode cX3_readSeat 9 = .ok (.getfield 146, 3) := by decide +kernel
theorem dX3_readSeat_12 : decode cX3_readSeat 12 = .ok (.iconst 1, 1) := by decide +kernel
theorem dX3_readSeat_13 : decode cX3_readSeat 13 = .ok (.isub, 1) := by decide +kernel
theorem dX3_readSeat_14 : decode cX3_readSeat 14 = .ok (.invokevirtual 111, 3) := by decide +kernel
theorem dX3_readSeat_17 : decode cX3_readSeat 17 = .ok (.istore_n 1, 1) := by decide +kernel
theorem dX3_readSeat_18 : decode cX3_readSeat 18 = .ok (.aload_n 0, 1) := by decide +kernel
theorem dX3_readSeat_19 : decode cX3_readSeat 19 = .ok (.iconst 0, 1) := by decide +kernel
theorem dX3_readSeat_20 : decode cX3_readSeat 20 = .ok (.aload_n 0, 1) := by decide +kernel
theorem dX3_readSeat_21 : decode cX3_readSeat 21 = .ok (.getfield 19, 3) := by decide +kernel
theorem dX3_readSeat_24 : decode cX3_readSeat 24 = .ok (.getfield 41, 3) := by decide +kernel
theorem dX3_readSeat_27 : decode cX3_readSeat 27 = .ok (.getfield 149, 3) := by decide +kernel
theorem dX3_readSeat_30 : decode cX3_readSeat 30 = .ok (.iconst 1, 1) := by decide +kernel
theorem dX3_readSeat_31 : decode cX3_readSeat 31 = .ok (.isub, 1) := by decide +kernel
theorem dX3_readSeat_32 : decode cX3_readSeat 32 = .ok (.invokevirtual 111, 3) := by decide +kernel
theorem dX3_readSeat_35 : decode cX3_readSeat 35 = .ok (.istore_n 2, 1) := by decide +kernel
theorem dX3_readSeat_36 : decode cX3_readSeat 36 = .ok (.aload_n 0, 1) := by decide +kernel
theorem dX3_readSeat_37 : decode cX3_readSeat 37 = .ok (.getfield 15, 3) := by decide +kernel
theorem dX3_readSeat_40 : decode cX3_readSeat 40 = .ok (.invokevirtual 114, 3) := by decide +kernel
theorem dX3_readSeat_43 : decode cX3_readSeat 43 = .ok (.ifCond .eq 7, 3) := by decide +kernel
theorem dX3_readSeat_46 : decode cX3_readSeat 46 = .ok (.iconst (-1), 1) := by decide +kernel
theorem dX3_readSeat_47 : decode cX3_readSeat 47 = .ok (.goto 15, 3) := by decide +kernel
theorem dX3_readSeat_50 : decode cX3_readSeat 50 = .ok (.aload_n 0, 1) := by decide +kernel
theorem dX3_readSeat_51 : decode cX3_readSeat 51 = .ok (.getfield 19, 3) := by decide +kernel
theorem dX3_readSeat_54 : decode cX3_readSeat 54 = .ok (.getfield 41, 3) := by decide +kernel
theorem dX3_readSeat_57 : decode cX3_readSeat 57 = .ok (.iload_n 1, 1) := by decide +kernel
theorem dX3_readSeat_58 : decode cX3_readSeat 58 = .ok (.iload_n 2, 1) := by decide +kernel
theorem dX3_readSeat_59 : decode cX3_readSeat 59 = .ok (.invokevirtual 152, 3) := by decide +kernel
theorem dX3_readSeat_62 : decode cX3_readSeat 62 = .ok (.ireturn, 1) := by decide +kernel
theorem dX3_readNumber_0 : decode cX3_readNumber 0 = .ok (.aload_n 0, 1) := by decide +kernel
theorem dX3_readNumber_1 : decode cX3_readNumber 1 = .ok (.getfield 15, 3) := by decide +kernel
theorem dX3_readNumber_4 : decode cX3_readNumber 4 = .ok (.invokevirtual 114, 3) := by decide +kernel
theorem dX3_readNumber_7 : decode cX3_readNumber 7 = .ok (.ifCond .eq 7, 3) := by decide +kernel
theorem dX3_readNumber_10 : decode cX3_readNumber 10 = .ok (.iconst (-1), 1) := by decide +kernel
theorem dX3_readNumber_11 : decode cX3_readNumber 11 = .ok (.goto 12, 3) := by decide +kernel
theorem dX3_readNumber_14 : decode cX3_readNumber 14 = .ok (.aload_n 0, 1) := by decide +kernel
theorem dX3_readNumber_15 : decode cX3_readNumber 15 = .ok (.getfield 15, 3) := by decide +kernel
theorem dX3_readNumber_18 : decode cX3_readNumber 18 = .ok (.iload_n 1, 1) := by decide +kernel
theorem dX3_readNumber_19 : decode cX3_readNumber 19 = .ok (.iload_n 2, 1) := by decide +kernel
theorem dX3_readNumber_20 : decode cX3_readNumber 20 = .ok (.invokevirtual 108, 3) := by decide +kernel
theorem dX3_readNumber_23 : decode cX3_readNumber 23 = .ok (.ireturn, 1) := by decide +kernel
theorem dX4_init_0 : decode cX4_init 0 = .ok (.aload_n 0, 1) := by decide +kernel
theorem dX4_init_1 : decode cX4_init 1 = .ok (.invokespecial 1, 3) := by decide +kernel
theorem dX4_init_4 : decode cX4_init 4 = .ok (.aload_n 0, 1) := by decide +kernel
theorem dX4_init_5 : decode cX4_init 5 = .ok (.bipush 64, 2) := by decide +kernel
theorem dX4_init_7 : decode cX4_init 7 = .ok (.newarray .long, 2) := by decide +kernel
theorem dX4_init_9 : decode cX4_init 9 = .ok (.putfield 9, 3) := by decide +kernel
theorem dX4_init_12 : decode cX4_init 12 = .ok (.aload_n 0, 1) := by decide +kernel
theorem dX4_init_13 : decode cX4_init 13 = .ok (.aload_n 1, 1) := by decide +kernel
theorem dX4_init_14 : decode cX4_init 14 = .ok (.putfield 13, 3) := by decide +kernel
theorem dX4_init_17 : decode cX4_init 17 = .ok (.aload_n 0, 1) := by decide +kernel
theorem dX4_init_18 : decode cX4_init 18 = .ok (.aload_n 2, 1) := by decide +kernel
theorem dX4_init_19 : decode cX4_init 19 = .ok (.putfield 17, 3) := by decide +kernel
theorem dX4_init_22 : decode cX4_init 22 = .ok (.aload_n 0, 1) := by decide +kernel
theorem dX4_init_23 : decode cX4_init 23 = .ok (.aload_n 3, 1) := by decide +kernel
theorem dX4_init_24 : decode cX4_init 24 = .ok (.putfield 20, 3) := by decide +kernel
theorem dX4_init_27 : decode cX4_init 27 = .ok (.return_, 1) := by decide +kernel
theorem dX4_worth_0 : decode cX4_worth 0 = .ok (.iconst 0, 1) := by decide +kernel
theorem dX4_worth_1 : decode cX4_worth 1 = .ok (.istore 4, 2) := by decide +kernel
theorem dX4_worth_3 : decode cX4_worth 3 = .ok (.iconst 0, 1) := by decide +kernel
theorem dX4_worth_4 : decode cX4_worth 4 = .ok (.istore 5, 2) := by decide +kernel
theorem dX4_worth_6 : decode cX4_worth 6 = .ok (.iload 5, 2) := by decide +kernel
theorem dX4_worth_8 : decode cX4_worth 8 = .ok (.aload_n 0, 1) := by decide +kernel
theorem dX4_worth_9 : decode cX4_worth 9 = .ok (.getfield 17, 3) := by decide +kernel
theorem dX4_worth_12 : decode cX4_worth 12 = .ok (.arraylength, 1) := by decide +kernel
theorem dX4_worth_13 : decode cX4_worth 13 = .ok (.if_icmp .ge 88, 3) := by decide +kernel
theorem dX4_worth_16 : decode cX4_worth 16 = .ok (.iload 5, 2) := by decide +kernel
theorem dX4_worth_18 : decode cX4_worth 18 = .ok (.aload_n 0, 1) := by decide +kernel
theorem dX4_worth_19 : decode cX4_worth 19 = .ok (.getfield 20, 3) := by decide +kernel
theorem dX4_worth_22 : decode cX4_worth 22 = .ok (.arraylength, 1) := by decide +kernel
theorem dX4_worth_23 : decode cX4_worth 23 = .ok (.if_icmp .ge 78, 3) := by decide +kernel
theorem dX4_worth_26 : decode cX4_worth 26 = .ok (.aload_n 0, 1) := by decide +kernel
theorem dX4_worth_27 : decode cX4_worth 27 = .ok (.getfield 17, 3) := by decide +kernel
theorem dX4_worth_30 : decode cX4_worth 30 = .ok (.iload 5, 2) := by decide +kernel
theorem dX4_worth_32 : decode cX4_worth 32 = .ok (.iaload, 1) := by decide +kernel
theorem dX4_worth_33 : decode cX4_worth 33 = .ok (.aload_n 0, 1) := by decide +kernel
theorem dX4_worth_34 : decode cX4_worth 34 = .ok (.getfield 20, 3) := by decide +kernel
theorem dX4_worth_37 : decode cX4_worth 37 = .ok (.iload 5, 2) := by decide +kernel
theorem dX4_worth_39 : decode cX4_worth 39 = .ok (.iaload, 1) := by decide +kernel
theorem dX4_worth_40 : decode cX4_worth 40 = .ok (.if_icmp .eq 29, 3) := by decide +kernel
theorem dX4_worth_43 : decode cX4_worth 43 = .ok (.aload_n 0, 1) := by decide +kernel
theorem dX4_worth_44 : decode cX4_worth 44 = .ok (.aload_n 0, 1) := by decide +kernel
theorem dX4_worth_45 : decode cX4_worth 45 = .ok (.getfield 17, 3) := by decide +kernel
theorem dX4_worth_48 : decode cX4_worth 48 = .ok (.iload 5, 2) := by decide +kernel
theorem dX4_worth_50 : decode cX4_worth 50 = .ok (.iaload, 1) := by decide +kernel
theorem dX4_worth_51 : decode cX4_worth 51 = .ok (.aload_n 0, 1) := by decide +kernel
theorem dX4_worth_52 : decode cX4_worth 52 = .ok (.getfield 20, 3) := by decide +kernel
theorem dX4_worth_55 : decode cX4_worth 55 = .ok (.iload 5, 2) := by decide +kernel
theorem dX4_worth_57 : decode cX4_worth 57 = .ok (.iaload, 1) := by decide +kernel
theorem dX4_worth_58 : decode cX4_worth 58 = .ok (.aload_n 1, 1) := by decide +kernel
theorem dX4_worth_59 : decode cX4_worth 59 = .ok (.iload_n 2, 1) := by decide +kernel
theorem dX4_worth_60 : decode cX4_worth 60 = .ok (.iload_n 3, 1) := by decide +kernel
theorem dX4_worth_61 : decode cX4_worth 61 = .ok (.invokevirtual 23, 3) := by decide +kernel
theorem dX4_worth_64 : decode cX4_worth 64 = .ok (.lconst 0, 1) := by decide +kernel
theorem dX4_worth_65 : decode cX4_worth 65 = .ok (.lcmp, 1) := by decide +kernel
theorem dX4_worth_66 : decode cX4_worth 66 = .ok (.ifCond .eq 20, 3) := by decide +kernel
theorem dX4_worth_69 : decode cX4_worth 69 = .ok (.aload_n 0, 1) := by decide +kernel
theorem dX4_worth_70 : decode cX4_worth 70 = .ok (.iload 4, 2) := by decide +kernel
theorem dX4_worth_72 : decode cX4_worth 72 = .ok (.aload_n 0, 1) := by decide +kernel
theorem dX4_worth_73 : decode cX4_worth 73 = .ok (.getfield 17, 3) := by decide +kernel
theorem dX4_worth_76 : decode cX4_worth 76 = .ok (.iload 5, 2) := by decide +kernel
theorem dX4_worth_78 : decode cX4_worth 78 = .ok (.iaload, 1) := by decide +kernel
theorem dX4_worth_79 : decode cX4_worth 79 = .ok (.aload_n 1, 1) := by decide +kernel
theorem dX4_worth_80 : decode cX4_worth 80 = .ok (.iload_n 2, 1) := by decide +kernel
theorem dX4_worth_81 : decode cX4_worth 81 = .ok (.iload_n 3, 1) := by decide +kernel
theorem dX4_worth_82 : decode cX4_worth 82 = .ok (.invokevirtual 23, 3) := by decide +kernel
theorem dX4_worth_85 : decode cX4_worth 85 = .ok (.lreturn, 1) := by decide +kernel
theorem dX4_worth_86 : decode cX4_worth 86 = .ok (.aload_n 0, 1) := by decide +kernel
theorem dX4_worth_87 : decode cX4_worth 87 = .ok (.getfield 20, 3) := by decide +kernel
theorem dX4_worth_90 : decode cX4_worth 90 = .ok (.iload 5, 2) := by decide +kernel
theorem dX4_worth_92 : decode cX4_worth 92 = .ok (.iaload, 1) := by decide +kernel
theorem dX4_worth_93 : decode cX4_worth 93 = .ok (.istore 4, 2) := by decide +kernel
theorem dX4_worth_95 : decode cX4_worth 95 = .ok (.iinc 5 1, 3) := by decide +kernel
theorem dX4_worth_98 : decode cX4_worth 98 = .ok (.goto (-92), 3) := by decide +kernel
theorem dX4_worth_101 : decode cX4_worth 101 = .ok (.lconst 0, 1) := by decide +kernel
theorem dX4_worth_102 : decode cX4_worth 102 = .ok (.lreturn, 1) := by decide +kernel
theorem dX4_reckon_0 : decode cX4_reckon 0 = .ok (.iconst 0, 1) := by decide +kernel
theorem dX4_reckon_1 : decode cX4_reckon 1 = .ok (.istore 6, 2) := by decide +kernel
theorem dX4_reckon_3 : decode cX4_reckon 3 = .ok (.iload_n 1, 1) := by decide +kernel
theorem dX4_reckon_4 : decode cX4_reckon 4 = .ok (.istore 7, 2) := by decide +kernel
theorem dX4_reckon_6 : decode cX4_reckon 6 = .ok (.iload 7, 2) := by decide +kernel
theorem dX4_reckon_8 : decode cX4_reckon 8 = .ok (.iload_n 2, 1) := by decide +kernel
theorem dX4_reckon_9 : decode cX4_reckon 9 = .ok (.if_icmp .ge 150, 3) := by decide +kernel
theorem dX4_reckon_12 : decode cX4_reckon 12 = .ok (.iload 7, 2) := by decide +kernel
theorem dX4_reckon_14 : decode cX4_reckon 14 = .ok (.aload_n 0, 1) := by decide +kernel
theorem dX4_reckon_15 : decode cX4_reckon 15 = .ok (.getfield 13, 3) := by decide +kernel
theorem dX4_reckon_18 : decode cX4_reckon 18 = .ok (.arraylength, 1) := by decide +kernel
theorem dX4_reckon_19 : decode cX4_reckon 19 = .ok (.if_icmp .ge 140, 3) := by decide +kernel
theorem dX4_reckon_22 : decode cX4_reckon 22 = .ok (.aload_n 0, 1) := by decide +kernel
theorem dX4_reckon_23 : decode cX4_reckon 23 = .ok (.getfield 13, 3) := by decide +kernel
theorem dX4_reckon_26 : decode cX4_reckon 26 = .ok (.iload 7, 2) := by decide +kernel
theorem dX4_reckon_28 : decode cX4_reckon 28 = .ok (.iaload, 1) := by decide +kernel
theorem dX4_reckon_29 : decode cX4_reckon 29 = .ok (.istore 8, 2) := by decide +kernel
theorem dX4_reckon_31 : decode cX4_reckon 31 = .ok (.iload 8, 2) := by decide +kernel
theorem dX4_reckon_33 : decode cX4_reckon 33 = .ok (.bipush (-10), 2) := by decide +kernel
theorem dX4_reckon_35 : decode cX4_reckon 35 = .ok (.if_icmp .le 44, 3) := by decide +kernel
theorem dX4_reckon_38 : decode cX4_reckon 38 = .ok (.iload 6, 2) := by decide +kernel
theorem dX4_reckon_40 : decode cX4_reckon 40 = .ok (.bipush 64, 2) := by decide +kernel
theorem dX4_reckon_42 : decode cX4_reckon 42 = .ok (.if_icmp .ge 111, 3) := by decide +kernel
theorem dX4_reckon_45 : decode cX4_reckon 45 = .ok (.aload_n 0, 1) := by decide +kernel
theorem dX4_reckon_46 : decode cX4_reckon 46 = .ok (.getfield 9, 3) := by decide +kernel
theorem dX4_reckon_49 : decode cX4_reckon 49 = .ok (.iload 6, 2) := by decide +kernel
theorem dX4_reckon_51 : decode cX4_reckon 51 = .ok (.iload 8, 2) := by decide +kernel
theorem dX4_reckon_53 : decode cX4_reckon 53 = .ok (.ifCond .lt 9, 3) := by decide +kernel
theorem dX4_reckon_56 : decode cX4_reckon 56 = .ok (.iload 8, 2) := by decide +kernel
theorem dX4_reckon_58 : decode cX4_reckon 58 = .ok (.i2l, 1) := by decide +kernel
theorem dX4_reckon_59 : decode cX4_reckon 59 = .ok (.goto 13, 3) := by decide +kernel
theorem dX4_reckon_62 : decode cX4_reckon 62 = .ok (.aload_n 3, 1) := by decide +kernel
theorem dX4_reckon_63 : decode cX4_reckon 63 = .ok (.iload 8, 2) := by decide +kernel
theorem dX4_reckon_65 : decode cX4_reckon 65 = .ok (.iload 4, 2) := by decide +kernel
theorem dX4_reckon_67 : decode cX4_reckon 67 = .ok (.iload 5, 2) := by decide +kernel
theorem dX4_reckon_69 : decode cX4_reckon 69 = .ok (.invokevirtual 27, 3) := by decide +kernel
theorem dX4_reckon_72 : decode cX4_reckon 72 = .ok (.lastore, 1) := by decide +kernel
theorem dX4_reckon_73 : decode cX4_reckon 73 = .ok (.iinc 6 1, 3) := by decide +kernel
theorem dX4_reckon_76 : decode cX4_reckon 76 = .ok (.goto 77, 3) := by decide +kernel
theorem dX4_reckon_79 : decode cX4_reckon 79 = .ok (.iload 8, 2) := by decide +kernel
theorem dX4_reckon_81 : decode cX4_reckon 81 = .ok (.bipush (-22), 2) := by decide +kernel
theorem dX4_reckon_83 : decode cX4_reckon 83 = .ok (.if_icmp .ne 31, 3) := by decide +kernel
theorem dX4_reckon_86 : decode cX4_reckon 86 = .ok (.iload 6, 2) := by decide +kernel
theorem dX4_reckon_88 : decode cX4_reckon 88 = .ok (.ifCond .le 65, 3) := by decide +kernel
theorem dX4_reckon_91 : decode cX4_reckon 91 = .ok (.aload_n 0, 1) := by decide +kernel
theorem dX4_reckon_92 : decode cX4_reckon 92 = .ok (.getfield 9, 3) := by decide +kernel
theorem dX4_reckon_95 : decode cX4_reckon 95 = .ok (.iload 6, 2) := by decide +kernel
theorem dX4_reckon_97 : decode cX4_reckon 97 = .ok (.iconst 1, 1) := by decide +kernel
theorem dX4_reckon_98 : decode cX4_reckon 98 = .ok (.isub, 1) := by decide +kernel
theorem dX4_reckon_99 : decode cX4_reckon 99 = .ok (.lconst 1, 1) := by decide +kernel
theorem dX4_reckon_100 : decode cX4_reckon 100 = .ok (.aload_n 0, 1) := by decide +kernel
theorem dX4_reckon_101 : decode cX4_reckon 101 = .ok (.getfield 9, 3) := by decide +kernel
theorem dX4_reckon_104 : decode cX4_reckon 104 = .ok (.iload 6, 2) := by decide +kernel
theorem dX4_reckon_106 : decode cX4_reckon 106 = .ok (.iconst 1, 1) := by decide +kernel
theorem dX4_reckon_107 : decode cX4_reckon 107 = .ok (.isub, 1) := by decide +kernel
theorem dX4_reckon_108 : decode cX4_reckon 108 = .ok (.laload, 1) := by decide +kernel
theorem dX4_reckon_109 : decode cX4_reckon 109 = .ok (.lsub, 1) := by decide +kernel
theorem dX4_reckon_110 : decode cX4_reckon 110 = .ok (.lastore, 1) := by decide +kernel
theorem dX4_reckon_111 : decode cX4_reckon 111 = .ok (.goto 42, 3) := by decide +kernel
theorem dX4_reckon_114 : decode cX4_reckon 114 = .ok (.iload 6, 2) := by decide +kernel
theorem dX4_reckon_116 : decode cX4_reckon 116 = .ok (.iconst 1, 1) := by decide +kernel
theorem dX4_reckon_117 : decode cX4_reckon 117 = .ok (.if_icmp .le 36, 3) := by decide +kernel
theorem dX4_reckon_120 : decode cX4_reckon 120 = .ok (.iinc 6 (-1), 3) := by decide +kernel
theorem dX4_reckon_123 : decode cX4_reckon 123 = .ok (.aload_n 0, 1) := by decide +kernel
theorem dX4_reckon_124 : decode cX4_reckon 124 = .ok (.getfield 9, 3) := by decide +kernel
theorem dX4_reckon_127 : decode cX4_reckon 127 = .ok (.iload 6, 2) := by decide +kernel
theorem dX4_reckon_129 : decode cX4_reckon 129 = .ok (.iconst 1, 1) := by decide +kernel
theorem dX4_reckon_130 : decode cX4_reckon 130 = .ok (.isub, 1) := by decide +kernel
theorem dX4_reckon_131 : decode cX4_reckon 131 = .ok (.iload 8, 2) := by decide +kernel
theorem dX4_reckon_133 : decode cX4_reckon 133 = .ok (.aload_n 0, 1) := by decide +kernel
theorem dX4_reckon_134 : decode cX4_reckon 134 = .ok (.getfield 9, 3) := by decide +kernel
theorem dX4_reckon_137 : decode cX4_reckon 137 = .ok (.iload 6, 2) := by decide +kernel
theorem dX4_reckon_139 : decode cX4_reckon 139 = .ok (.iconst 1, 1) := by decide +kernel
theorem dX4_reckon_140 : decode cX4_reckon 140 = .ok (.isub, 1) := by decide +kernel
theorem dX4_reckon_141 : decode cX4_reckon 141 = .ok (.laload, 1) := by decide +kernel
theorem dX4_reckon_142 : decode cX4_reckon 142 = .ok (.aload_n 0, 1) := by decide +kernel
theorem dX4_reckon_143 : decode cX4_reckon 143 = .ok (.getfield 9, 3) := by decide +kernel
theorem dX4_reckon_146 : decode cX4_reckon 146 = .ok (.iload 6, 2) := by decide +kernel
theorem dX4_reckon_148 : decode cX4_reckon 148 = .ok (.laload, 1) := by decide +kernel
theorem dX4_reckon_149 : decode cX4_reckon 149 = .ok (.invokestatic 33, 3) := by decide +kernel
theorem dX4_reckon_152 : decode cX4_reckon 152 = .ok (.lastore, 1) := by decide +kernel
theorem dX4_reckon_153 : decode cX4_reckon 153 = .ok (.iinc 7 1, 3) := by decide +kernel
theorem dX4_reckon_156 : decode cX4_reckon 156 = .ok (.goto (-150), 3) := by decide +kernel
theorem dX4_reckon_159 : decode cX4_reckon 159 = .ok (.iload 6, 2) := by decide +kernel
theorem dX4_reckon_161 : decode cX4_reckon 161 = .ok (.ifCond .le 15, 3) := by decide +kernel
theorem dX4_reckon_164 : decode cX4_reckon 164 = .ok (.aload_n 0, 1) := by decide +kernel
theorem dX4_reckon_165 : decode cX4_reckon 165 = .ok (.getfield 9, 3) := by decide +kernel
theorem dX4_reckon_168 : decode cX4_reckon 168 = .ok (.iload 6, 2) := by decide +kernel
theorem dX4_reckon_170 : decode cX4_reckon 170 = .ok (.iconst 1, 1) := by decide +kernel
theorem dX4_reckon_171 : decode cX4_reckon 171 = .ok (.isub, 1) := by decide +kernel
theorem dX4_reckon_172 : decode cX4_reckon 172 = .ok (.laload, 1) := by decide +kernel
theorem dX4_reckon_173 : decode cX4_reckon 173 = .ok (.goto 4, 3) := by decide +kernel
theorem dX4_reckon_176 : decode cX4_reckon 176 = .ok (.lconst 0, 1) := by decide +kernel
theorem dX4_reckon_177 : decode cX4_reckon 177 = .ok (.lreturn, 1) := by decide +kernel
theorem dX4_join_0 : decode cX4_join 0 = .ok (.iload_n 0, 1) := by decide +kernel
theorem dX4_join_1 : decode cX4_join 1 = .ok (.tableswitch 163 (-20) (-10) #[159, 147, 135, 123, 111, 99, 85, 71, 67, 63, 59], 59) := by decide +kernel
theorem dX4_join_60 : decode cX4_join 60 = .ok (.lload_n 1, 1) := by decide +kernel
theorem dX4_join_61 : decode cX4_join 61 = .ok (.lload_n 3, 1) := by decide +kernel
theorem dX4_join_62 : decode cX4_join 62 = .ok (.ladd, 1) := by decide +kernel
theorem dX4_join_63 : decode cX4_join 63 = .ok (.lreturn, 1) := by decide +kernel
theorem dX4_join_64 : decode cX4_join 64 = .ok (.lload_n 1, 1) := by decide +kernel
theorem dX4_join_65 : decode cX4_join 65 = .ok (.lload_n 3, 1) := by decide +kernel
theorem dX4_join_66 : decode cX4_join 66 = .ok (.lsub, 1) := by decide +kernel
theorem dX4_join_67 : decode cX4_join 67 = .ok (.lreturn, 1) := by decide +kernel
theorem dX4_join_68 : decode cX4_join 68 = .ok (.lload_n 1, 1) := by decide +kernel
theorem dX4_join_69 : decode cX4_join 69 = .ok (.lload_n 3, 1) := by decide +kernel
theorem dX4_join_70 : decode cX4_join 70 = .ok (.lmul, 1) := by decide +kernel
theorem dX4_join_71 : decode cX4_join 71 = .ok (.lreturn, 1) := by decide +kernel
theorem dX4_join_72 : decode cX4_join 72 = .ok (.lload_n 3, 1) := by decide +kernel
theorem dX4_join_73 : decode cX4_join 73 = .ok (.lconst 0, 1) := by decide +kernel
theorem dX4_join_74 : decode cX4_join 74 = .ok (.lcmp, 1) := by decide +kernel
theorem dX4_join_75 : decode cX4_join 75 = .ok (.ifCond .ne 7, 3) := by decide +kernel
theorem dX4_join_78 : decode cX4_join 78 = .ok (.lconst 0, 1) := by decide +kernel
theorem dX4_join_79 : decode cX4_join 79 = .ok (.goto 6, 3) := by decide +kernel
theorem dX4_join_82 : decode cX4_join 82 = .ok (.lload_n 1, 1) := by decide +kernel
theorem dX4_join_83 : decode cX4_join 83 = .ok (.lload_n 3, 1) := by decide +kernel
theorem dX4_join_84 : decode cX4_join 84 = .ok (.ldiv, 1) := by decide +kernel
theorem dX4_join_85 : decode cX4_join 85 = .ok (.lreturn, 1) := by decide +kernel
theorem dX4_join_86 : decode cX4_join 86 = .ok (.lload_n 3, 1) := by decide +kernel
theorem dX4_join_87 : decode cX4_join 87 = .ok (.lconst 0, 1) := by decide +kernel
theorem dX4_join_88 : decode cX4_join 88 = .ok (.lcmp, 1) := by decide +kernel
theorem dX4_join_89 : decode cX4_join 89 = .ok (.ifCond .ne 7, 3) := by decide +kernel
theorem dX4_join_92 : decode cX4_join 92 = .ok (.lconst 0, 1) := by decide +kernel
theorem dX4_join_93 : decode cX4_join 93 = .ok (.goto 6, 3) := by decide +kernel
theorem dX4_join_96 : decode cX4_join 96 = .ok (.lload_n 1, 1) := by decide +kernel
theorem dX4_join_97 : decode cX4_join 97 = .ok (.lload_n 3, 1) := by decide +kernel
theorem dX4_join_98 : decode cX4_join 98 = .ok (.lrem, 1) := by decide +kernel
theorem dX4_join_99 : decode cX4_join 99 = .ok (.lreturn, 1) := by decide +kernel
theorem dX4_join_100 : decode cX4_join 100 = .ok (.lload_n 1, 1) := by decide +kernel
theorem dX4_join_101 : decode cX4_join 101 = .ok (.lload_n 3, 1) := by decide +kernel
theorem dX4_join_102 : decode cX4_join 102 = .ok (.lcmp, 1) := by decide +kernel
theorem dX4_join_103 : decode cX4_join 103 = .ok (.ifCond .ge 7, 3) := by decide +kernel
theorem dX4_join_106 : decode cX4_join 106 = .ok (.lconst 1, 1) := by decide +kernel
theorem dX4_join_107 : decode cX4_join 107 = .ok (.goto 4, 3) := by decide +kernel
theorem dX4_join_110 : decode cX4_join 110 = .ok (.lconst 0, 1) := by decide +kernel
theorem dX4_join_111 : decode cX4_join 111 = .ok (.lreturn, 1) := by decide +kernel
theorem dX4_join_112 : decode cX4_join 112 = .ok (.lload_n 1, 1) := by decide +kernel
theorem dX4_join_113 : decode cX4_join 113 = .ok (.lload_n 3, 1) := by decide +kernel
theorem dX4_join_114 : decode cX4_join 114 = .ok (.lcmp, 1) := by decide +kernel
theorem dX4_join_115 : decode cX4_join 115 = .ok (.ifCond .gt 7, 3) := by decide +kernel
theorem dX4_join_118 : decode cX4_join 118 = .ok (.lconst 1, 1) := by decide +kernel
theorem dX4_join_119 : decode cX4_join 119 = .ok (.goto 4, 3) := by decide +kernel
theorem dX4_join_122 : decode cX4_join 122 = .ok (.lconst 0, 1) := by decide +kernel
theorem dX4_join_123 : decode cX4_join 123 = .ok (.lreturn, 1) := by decide +kernel
theorem dX4_join_124 : decode cX4_join 124 = .ok (.lload_n 1, 1) := by decide +kernel
theorem dX4_join_125 : decode cX4_join 125 = .ok (.lload_n 3, 1) := by decide +kernel
theorem dX4_join_126 : decode cX4_join 126 = .ok (.lcmp, 1) := by decide +kernel
theorem dX4_join_127 : decode cX4_join 127 = .ok (.ifCond .ne 7, 3) := by decide +kernel
theorem dX4_join_130 : decode cX4_join 130 = .ok (.lconst 1, 1) := by decide +kernel
theorem dX4_join_131 : decode cX4_join 131 = .ok (.goto 4, 3) := by decide +kernel
theorem dX4_join_134 : decode cX4_join 134 = .ok (.lconst 0, 1) := by decide +kernel
theorem dX4_join_135 : decode cX4_join 135 = .ok (.lreturn, 1) := by decide +kernel
theorem dX4_join_136 : decode cX4_join 136 = .ok (.lload_n 1, 1) := by decide +kernel
theorem dX4_join_137 : decode cX4_join 137 = .ok (.lload_n 3, 1) := by decide +kernel
theorem dX4_join_138 : decode cX4_join 138 = .ok (.lcmp, 1) := by decide +kernel
theorem dX4_join_139 : decode cX4_join 139 = .ok (.ifCond .lt 7, 3) := by decide +kernel
theorem dX4_join_142 : decode cX4_join 142 = .ok (.lconst 1, 1) := by decide +kernel
theorem dX4_join_143 : decode cX4_join 143 = .ok (.goto 4, 3) := by decide +kernel
theorem dX4_join_146 : decode cX4_join 146 = .ok (.lconst 0, 1) := by decide +kernel
theorem dX4_join_147 : decode cX4_join 147 = .ok (.lreturn, 1) := by decide +kernel
theorem dX4_join_148 : decode cX4_join 148 = .ok (.lload_n 1, 1) := by decide +kernel
theorem dX4_join_149 : decode cX4_join 149 = .ok (.lload_n 3, 1) := by decide +kernel
theorem dX4_join_150 : decode cX4_join 150 = .ok (.lcmp, 1) := by decide +kernel
theorem dX4_join_151 : decode cX4_join 151 = .ok (.ifCond .le 7, 3) := by decide +kernel
theorem dX4_join_154 : decode cX4_join 154 = .ok (.lconst 1, 1) := by decide +kernel
theorem dX4_join_155 : decode cX4_join 155 = .ok (.goto 4, 3) := by decide +kernel
theorem dX4_join_158 : decode cX4_join 158 = .ok (.lconst 0, 1) := by decide +kernel
theorem dX4_join_159 : decode cX4_join 159 = .ok (.lreturn, 1) := by decide +kernel
theorem dX4_join_160 : decode cX4_join 160 = .ok (.lload_n 1, 1) := by decide +kernel
theorem dX4_join_161 : decode cX4_join 161 = .ok (.lload_n 3, 1) := by decide +kernel
theorem dX4_join_162 : decode cX4_join 162 = .ok (.land, 1) := by decide +kernel
theorem dX4_join_163 : decode cX4_join 163 = .ok (.lreturn, 1) := by decide +kernel
theorem dX4_join_164 : decode cX4_join 164 = .ok (.lload_n 1, 1) := by decide +kernel
theorem dX4_join_165 : decode cX4_join 165 = .ok (.lload_n 3, 1) := by decide +kernel
theorem dX4_join_166 : decode cX4_join 166 = .ok (.lor, 1) := by decide +kernel
theorem dX4_join_167 : decode cX4_join 167 = .ok (.lreturn, 1) := by decide +kernel
theorem dX5_init_0 : decode cX5_init 0 = .ok (.aload_n 0, 1) := by decide +kernel
theorem dX5_init_1 : decode cX5_init 1 = .ok (.invokespecial 3, 3) := by decide +kernel
theorem dX5_init_4 : decode cX5_init 4 = .ok (.aload_n 0, 1) := by decide +kernel
theorem dX5_init_5 : decode cX5_init 5 = .ok (.sipush 400, 3) := by decide +kernel
theorem dX5_init_8 : decode cX5_init 8 = .ok (.newarray .int, 2) := by decide +kernel
theorem dX5_init_10 : decode cX5_init 10 = .ok (.putfield 11, 3) := by decide +kernel
theorem dX5_init_13 : decode cX5_init 13 = .ok (.aload_n 0, 1) := by decide +kernel
theorem dX5_init_14 : decode cX5_init 14 = .ok (.iconst 0, 1) := by decide +kernel
theorem dX5_init_15 : decode cX5_init 15 = .ok (.putfield 17, 3) := by decide +kernel
theorem dX5_init_18 : decode cX5_init 18 = .ok (.aload_n 0, 1) := by decide +kernel
theorem dX5_init_19 : decode cX5_init 19 = .ok (.iconst 0, 1) := by decide +kernel
theorem dX5_init_20 : decode cX5_init 20 = .ok (.putfield 21, 3) := by decide +kernel
theorem dX5_init_23 : decode cX5_init 23 = .ok (.aload_n 0, 1) := by decide +kernel
theorem dX5_init_24 : decode cX5_init 24 = .ok (.bipush 12, 2) := by decide +kernel
theorem dX5_init_26 : decode cX5_init 26 = .ok (.newarray .int, 2) := by decide +kernel
theorem dX5_init_28 : decode cX5_init 28 = .ok (.putfield 24, 3) := by decide +kernel
theorem dX5_init_31 : decode cX5_init 31 = .ok (.aload_n 0, 1) := by decide +kernel
theorem dX5_init_32 : decode cX5_init 32 = .ok (.bipush 12, 2) := by decide +kernel
theorem dX5_init_34 : decode cX5_init 34 = .ok (.newarray .int, 2) := by decide +kernel
theorem dX5_init_36 : decode cX5_init 36 = .ok (.putfield 27, 3) := by decide +kernel
theorem dX5_init_39 : decode cX5_init 39 = .ok (.aload_n 0, 1) := by decide +kernel
theorem dX5_init_40 : decode cX5_init 40 = .ok (.aload_n 1, 1) := by decide +kernel
theorem dX5_init_41 : decode cX5_init 41 = .ok (.putfield 30, 3) := by decide +kernel
theorem dX5_init_44 : decode cX5_init 44 = .ok (.return_, 1) := by decide +kernel
theorem dX5_read_0 : decode cX5_read 0 = .ok (.aload_n 0, 1) := by decide +kernel
theorem dX5_read_1 : decode cX5_read 1 = .ok (.getfield 30, 3) := by decide +kernel
theorem dX5_read_4 : decode cX5_read 4 = .ok (.invokevirtual 34, 3) := by decide +kernel
theorem dX5_read_7 : decode cX5_read 7 = .ok (.aload_n 0, 1) := by decide +kernel
theorem dX5_read_8 : decode cX5_read 8 = .ok (.iconst 0, 1) := by decide +kernel
theorem dX5_read_9 : decode cX5_read 9 = .ok (.putfield 17, 3) := by decide +kernel
theorem dX5_read_12 : decode cX5_read 12 = .ok (.aload_n 0, 1) := by decide +kernel
theorem dX5_read_13 : decode cX5_read 13 = .ok (.iconst 0, 1) := by decide +kernel
theorem dX5_read_14 : decode cX5_read 14 = .ok (.putfield 21, 3) := by decide +kernel
theorem dX5_read_17 : decode cX5_read 17 = .ok (.iconst 0, 1) := by decide +kernel
theorem dX5_read_18 : decode cX5_read 18 = .ok (.istore_n 1, 1) := by decide +kernel
theorem dX5_read_19 : decode cX5_read 19 = .ok (.iconst 1, 1) := by decide +kernel
theorem dX5_read_20 : decode cX5_read 20 = .ok (.istore_n 2, 1) := by decide +kernel
theorem dX5_read_21 : decode cX5_read 21 = .ok (.iconst 0, 1) := by decide +kernel
theorem dX5_read_22 : decode cX5_read 22 = .ok (.istore_n 3, 1) := by decide +kernel
theorem dX5_read_23 : decode cX5_read 23 = .ok (.iload_n 2, 1) := by decide +kernel
theorem dX5_read_24 : decode cX5_read 24 = .ok (.ifCond .eq 140, 3) := by decide +kernel
theorem dX5_read_27 : decode cX5_read 27 = .ok (.iload_n 3, 1) := by decide +kernel
theorem dX5_read_28 : decode cX5_read 28 = .ok (.bipush 12, 2) := by decide +kernel
theorem dX5_read_30 : decode cX5_read 30 = .ok (.if_icmp .gt 134, 3) := by decide +kernel
theorem dX5_read_33 : decode cX5_read 33 = .ok (.aload_n 0, 1) := by decide +kernel
theorem dX5_read_34 : decode cX5_read 34 = .ok (.getfield 30, 3) := by decide +kernel
theorem dX5_read_37 : decode cX5_read 37 = .ok (.ldc 37, 2) := by decide +kernel
theorem dX5_read_39 : decode cX5_read 39 = .ok (.invokevirtual 39, 3) := by decide +kernel
theorem dX5_read_42 : decode cX5_read 42 = .ok (.iconst (-1), 1) := by decide +kernel
theorem dX5_read_43 : decode cX5_read 43 = .ok (.if_icmp .ne 21, 3) := by decide +kernel
theorem dX5_read_46 : decode cX5_read 46 = .ok (.aload_n 0, 1) := by decide +kernel
theorem dX5_read_47 : decode cX5_read 47 = .ok (.getfield 30, 3) := by decide +kernel
theorem dX5_read_50 : decode cX5_read 50 = .ok (.iconst 0, 1) := by decide +kernel
theorem dX5_read_51 : decode cX5_read 51 = .ok (.aload_n 0, 1) := by decide +kernel
theorem dX5_read_52 : decode cX5_read 52 = .ok (.getfield 30, 3) := by decide +kernel
theorem dX5_read_55 : decode cX5_read 55 = .ok (.getfield 43, 3) := by decide +kernel
theorem dX5_read_58 : decode cX5_read 58 = .ok (.invokevirtual 46, 3) := by decide +kernel
theorem dX5_read_61 : decode cX5_read 61 = .ok (.goto 89, 3) := by decide +kernel
theorem dX5_read_64 : decode cX5_read 64 = .ok (.iload_n 3, 1) := by decide +kernel
theorem dX5_read_65 : decode cX5_read 65 = .ok (.bipush 12, 2) := by decide +kernel
theorem dX5_read_67 : decode cX5_read 67 = .ok (.if_icmp .lt 21, 3) := by decide +kernel
theorem dX5_read_70 : decode cX5_read 70 = .ok (.aload_n 0, 1) := by decide +kernel
theorem dX5_read_71 : decode cX5_read 71 = .ok (.getfield 30, 3) := by decide +kernel
theorem dX5_read_74 : decode cX5_read 74 = .ok (.iconst 4, 1) := by decide +kernel
theorem dX5_read_75 : decode cX5_read 75 = .ok (.aload_n 0, 1) := by decide +kernel
theorem dX5_read_76 : decode cX5_read 76 = .ok (.getfield 30, 3) := by decide +kernel
theorem dX5_read_79 : decode cX5_read 79 = .ok (.getfield 43, 3) := by decide +kernel
theorem dX5_read_82 : decode cX5_read 82 = .ok (.invokevirtual 46, 3) := by decide +kernel
theorem dX5_read_85 : decode cX5_read 85 = .ok (.goto 65, 3) := by decide +kernel
theorem dX5_read_88 : decode cX5_read 88 = .ok (.aload_n 0, 1) := by decide +kernel
theorem dX5_read_89 : decode cX5_read 89 = .ok (.getfield 30, 3) := by decide +kernel
theorem dX5_read_92 : decode cX5_read 92 = .ok (.invokevirtual 50, 3) := by decide +kernel
theorem dX5_read_95 : decode cX5_read 95 = .ok (.aload_n 0, 1) := by decide +kernel
theorem dX5_read_96 : decode cX5_read 96 = .ok (.invokevirtual 53, 3) := by decide +kernel
theorem dX5_read_99 : decode cX5_read 99 = .ok (.aload_n 0, 1) := by decide +kernel
theorem dX5_read_100 : decode cX5_read 100 = .ok (.getfield 24, 3) := by decide +kernel
theorem dX5_read_103 : decode cX5_read 103 = .ok (.iload_n 3, 1) := by decide +kernel
theorem dX5_read_104 : decode cX5_read 104 = .ok (.aload_n 0, 1) := by decide +kernel
theorem dX5_read_105 : decode cX5_read 105 = .ok (.getfield 17, 3) := by decide +kernel
theorem dX5_read_108 : decode cX5_read 108 = .ok (.iastore, 1) := by decide +kernel
theorem dX5_read_109 : decode cX5_read 109 = .ok (.aload_n 0, 1) := by decide +kernel
theorem dX5_read_110 : decode cX5_read 110 = .ok (.getfield 30, 3) := by decide +kernel
theorem dX5_read_113 : decode cX5_read 113 = .ok (.invokevirtual 56, 3) := by decide +kernel
theorem dX5_read_116 : decode cX5_read 116 = .ok (.ifCond .ne 20, 3) := by decide +kernel
theorem dX5_read_119 : decode cX5_read 119 = .ok (.aload_n 0, 1) := by decide +kernel
theorem dX5_read_120 : decode cX5_read 120 = .ok (.getfield 30, 3) := by decide +kernel
theorem dX5_read_123 : decode cX5_read 123 = .ok (.ldc 60, 2) := by decide +kernel
theorem dX5_read_125 : decode cX5_read 125 = .ok (.invokevirtual 62, 3) := by decide +kernel
theorem dX5_read_128 : decode cX5_read 128 = .ok (.ifCond .eq 8, 3) := by decide +kernel
theorem dX5_read_131 : decode cX5_read 131 = .ok (.aload_n 0, 1) := by decide +kernel
theorem dX5_read_132 : decode cX5_read 132 = .ok (.iconst 0, 1) := by decide +kernel
theorem dX5_read_133 : decode cX5_read 133 = .ok (.invokevirtual 66, 3) := by decide +kernel
theorem dX5_read_136 : decode cX5_read 136 = .ok (.aload_n 0, 1) := by decide +kernel
theorem dX5_read_137 : decode cX5_read 137 = .ok (.getfield 27, 3) := by decide +kernel
theorem dX5_read_140 : decode cX5_read 140 = .ok (.iload_n 3, 1) := by decide +kernel
theorem dX5_read_141 : decode cX5_read 141 = .ok (.aload_n 0, 1) := by decide +kernel
theorem dX5_read_142 : decode cX5_read 142 = .ok (.getfield 17, 3) := by decide +kernel
theorem dX5_read_145 : decode cX5_read 145 = .ok (.iastore, 1) := by decide +kernel
theorem dX5_read_146 : decode cX5_read 146 = .ok (.iload_n 3, 1) := by decide +kernel
theorem dX5_read_147 : decode cX5_read 147 = .ok (.iconst 1, 1) := by decide +kernel
theorem dX5_read_148 : decode cX5_read 148 = .ok (.iadd, 1) := by decide +kernel
theorem dX5_read_149 : decode cX5_read 149 = .ok (.istore_n 1, 1) := by decide +kernel
theorem dX5_read_150 : decode cX5_read 150 = .ok (.aload_n 0, 1) := by decide +kernel
theorem dX5_read_151 : decode cX5_read 151 = .ok (.getfield 30, 3) := by decide +kernel
theorem dX5_read_154 : decode cX5_read 154 = .ok (.invokevirtual 70, 3) := by decide +kernel
theorem dX5_read_157 : decode cX5_read 157 = .ok (.istore_n 2, 1) := by decide +kernel
theorem dX5_read_158 : decode cX5_read 158 = .ok (.iinc 3 1, 3) := by decide +kernel
theorem dX5_read_161 : decode cX5_read 161 = .ok (.goto (-138), 3) := by decide +kernel
theorem dX5_read_164 : decode cX5_read 164 = .ok (.aload_n 0, 1) := by decide +kernel
theorem dX5_read_165 : decode cX5_read 165 = .ok (.getfield 30, 3) := by decide +kernel
theorem dX5_read_168 : decode cX5_read 168 = .ok (.invokevirtual 56, 3) := by decide +kernel
theorem dX5_read_171 : decode cX5_read 171 = .ok (.ifCond .eq 5, 3) := by decide +kernel
theorem dX5_read_174 : decode cX5_read 174 = .ok (.aconst_null, 1) := by decide +kernel
theorem dX5_read_175 : decode cX5_read 175 = .ok (.areturn, 1) := by decide +kernel
theorem dX5_read_176 : decode cX5_read 176 = .ok (.new 73, 3) := by decide +kernel
theorem dX5_read_179 : decode cX5_read 179 = .ok (.dup, 1) := by decide +kernel
theorem dX5_read_180 : decode cX5_read 180 = .ok (.aload_n 0, 1) := by decide +kernel
theorem dX5_read_181 : decode cX5_read 181 = .ok (.getfield 11, 3) := by decide +kernel
theorem dX5_read_184 : decode cX5_read 184 = .ok (.aload_n 0, 1) := by decide +kernel
theorem dX5_read_185 : decode cX5_read 185 = .ok (.getfield 17, 3) := by decide +kernel
theorem dX5_read_188 : decode cX5_read 188 = .ok (.invokestatic 75, 3) := by decide +kernel
theorem dX5_read_191 : decode cX5_read 191 = .ok (.aload_n 0, 1) := by decide +kernel
theorem dX5_read_192 : decode cX5_read 192 = .ok (.getfield 24, 3) := by decide +kernel
theorem dX5_read_195 : decode cX5_read 195 = .ok (.iload_n 1, 1) := by decide +kernel
theorem dX5_read_196 : decode cX5_read 196 = .ok (.invokestatic 75, 3) := by decide +kernel
theorem dX5_read_199 : decode cX5_read 199 = .ok (.aload_n 0, 1) := by decide +kernel
theorem dX5_read_200 : decode cX5_read 200 = .ok (.getfield 27, 3) := by decide +kernel
theorem dX5_read_203 : decode cX5_read 203 = .ok (.iload_n 1, 1) := by decide +kernel
theorem dX5_read_204 : decode cX5_read 204 = .ok (.invokestatic 75, 3) := by decide +kernel
theorem dX5_read_207 : decode cX5_read 207 = .ok (.invokespecial 81, 3) := by decide +kernel
theorem dX5_read_210 : decode cX5_read 210 = .ok (.areturn, 1) := by decide +kernel
theorem dX5_readTest_0 : decode cX5_readTest 0 = .ok (.iconst 0, 1) := by decide +kernel
theorem dX5_readTest_1 : decode cX5_readTest 1 = .ok (.istore_n 2, 1) := by decide +kernel
theorem dX5_readTest_2 : decode cX5_readTest 2 = .ok (.aload_n 0, 1) := by decide +kernel
theorem dX5_readTest_3 : decode cX5_readTest 3 = .ok (.iload_n 1, 1) := by decide +kernel
theorem dX5_readTest_4 : decode cX5_readTest 4 = .ok (.invokevirtual 84, 3) := by decide +kernel
theorem dX5_readTest_7 : decode cX5_readTest 7 = .ok (.iconst 0, 1) := by decide +kernel
theorem dX5_readTest_8 : decode cX5_readTest 8 = .ok (.istore_n 3, 1) := by decide +kernel
theorem dX5_readTest_9 : decode cX5_readTest 9 = .ok (.iload_n 3, 1) := by decide +kernel
theorem dX5_readTest_10 : decode cX5_readTest 10 = .ok (.sipush 400, 3) := by decide +kernel
theorem dX5_readTest_13 : decode cX5_readTest 13 = .ok (.if_icmp .ge 74, 3) := by decide +kernel
theorem dX5_readTest_16 : decode cX5_readTest 16 = .ok (.aload_n 0, 1) := by decide +kernel
theorem dX5_readTest_17 : decode cX5_readTest 17 = .ok (.getfield 30, 3) := by decide +kernel
theorem dX5_readTest_20 : decode cX5_readTest 20 = .ok (.invokevirtual 56, 3) := by decide +kernel
theorem dX5_readTest_23 : decode cX5_readTest 23 = .ok (.ifCond .ne 64, 3) := by decide +kernel
theorem dX5_readTest_26 : decode cX5_readTest 26 = .ok (.aload_n 0, 1) := by decide +kernel
theorem dX5_readTest_27 : decode cX5_readTest 27 = .ok (.getfield 30, 3) := by decide +kernel
theorem dX5_readTest_30 : decode cX5_readTest 30 = .ok (.ldc 87, 2) := by decide +kernel
theorem dX5_readTest_32 : decode cX5_readTest 32 = .ok (.invokevirtual 62, 3) := by decide +kernel
theorem dX5_readTest_35 : decode cX5_readTest 35 = .ok (.ifCond .eq 17, 3) := by decide +kernel
theorem dX5_readTest_38 : decode cX5_readTest 38 = .ok (.aload_n 0, 1) := by decide +kernel
theorem dX5_readTest_39 : decode cX5_readTest 39 = .ok (.iload_n 1, 1) := by decide +kernel
theorem dX5_readTest_40 : decode cX5_readTest 40 = .ok (.invokevirtual 84, 3) := by decide +kernel
theorem dX5_readTest_43 : decode cX5_readTest 43 = .ok (.aload_n 0, 1) := by decide +kernel
theorem dX5_readTest_44 : decode cX5_readTest 44 = .ok (.bipush (-20), 2) := by decide +kernel
theorem dX5_readTest_46 : decode cX5_readTest 46 = .ok (.invokevirtual 89, 3) := by decide +kernel
theorem dX5_readTest_49 : decode cX5_readTest 49 = .ok (.goto 32, 3) := by decide +kernel
theorem dX5_readTest_52 : decode cX5_readTest 52 = .ok (.aload_n 0, 1) := by decide +kernel
theorem dX5_readTest_53 : decode cX5_readTest 53 = .ok (.getfield 30, 3) := by decide +kernel
theorem dX5_readTest_56 : decode cX5_readTest 56 = .ok (.ldc 92, 2) := by decide +kernel
theorem dX5_readTest_58 : decode cX5_readTest 58 = .ok (.invokevirtual 62, 3) := by decide +kernel
theorem dX5_readTest_61 : decode cX5_readTest 61 = .ok (.ifCond .eq 26, 3) := by decide +kernel
theorem dX5_readTest_64 : decode cX5_readTest 64 = .ok (.iload_n 2, 1) := by decide +kernel
theorem dX5_readTest_65 : decode cX5_readTest 65 = .ok (.ifCond .eq 9, 3) := by decide +kernel
theorem dX5_readTest_68 : decode cX5_readTest 68 = .ok (.aload_n 0, 1) := by decide +kernel
theorem dX5_readTest_69 : decode cX5_readTest 69 = .ok (.bipush (-21), 2) := by decide +kernel
theorem dX5_readTest_71 : decode cX5_readTest 71 = .ok (.invokevirtual 89, 3) := by decide +kernel
theorem dX5_readTest_74 : decode cX5_readTest 74 = .ok (.iconst 1, 1) := by decide +kernel
theorem dX5_readTest_75 : decode cX5_readTest 75 = .ok (.istore_n 2, 1) := by decide +kernel
theorem dX5_readTest_76 : decode cX5_readTest 76 = .ok (.aload_n 0, 1) := by decide +kernel
theorem dX5_readTest_77 : decode cX5_readTest 77 = .ok (.iload_n 1, 1) := by decide +kernel
theorem dX5_readTest_78 : decode cX5_readTest 78 = .ok (.invokevirtual 84, 3) := by decide +kernel
theorem dX5_readTest_81 : decode cX5_readTest 81 = .ok (.iinc 3 1, 3) := by decide +kernel
theorem dX5_readTest_84 : decode cX5_readTest 84 = .ok (.goto (-75), 3) := by decide +kernel
theorem dX5_readTest_87 : decode cX5_readTest 87 = .ok (.iload_n 2, 1) := by decide +kernel
theorem dX5_readTest_88 : decode cX5_readTest 88 = .ok (.ifCond .eq 9, 3) := by decide +kernel
theorem dX5_readTest_91 : decode cX5_readTest 91 = .ok (.aload_n 0, 1) := by decide +kernel
theorem dX5_readTest_92 : decode cX5_readTest 92 = .ok (.bipush (-21), 2) := by decide +kernel
theorem dX5_readTest_94 : decode cX5_readTest 94 = .ok (.invokevirtual 89, 3) := by decide +kernel
theorem dX5_readTest_97 : decode cX5_readTest 97 = .ok (.return_, 1) := by decide +kernel
theorem dX5_readFact_0 : decode cX5_readFact 0 = .ok (.aload_n 0, 1) := by decide +kernel
theorem dX5_readFact_1 : decode cX5_readFact 1 = .ok (.getfield 30, 3) := by decide +kernel
theorem dX5_readFact_4 : decode cX5_readFact 4 = .ok (.invokevirtual 94, 3) := by decide +kernel
theorem dX5_readFact_7 : decode cX5_readFact 7 = .ok (.bipush 91, 2) := by decide +kernel
theorem dX5_readFact_9 : decode cX5_readFact 9 = .ok (.if_icmp .ne 7, 3) := by decide +kernel
theorem dX5_readFact_12 : decode cX5_readFact 12 = .ok (.iconst 1, 1) := by decide +kernel
theorem dX5_readFact_13 : decode cX5_readFact 13 = .ok (.goto 4, 3) := by decide +kernel
theorem dX5_readFact_16 : decode cX5_readFact 16 = .ok (.iconst 0, 1) := by decide +kernel
theorem dX5_readFact_17 : decode cX5_readFact 17 = .ok (.istore_n 2, 1) := by decide +kernel
theorem dX5_readFact_18 : decode cX5_readFact 18 = .ok (.aload_n 0, 1) := by decide +kernel
theorem dX5_readFact_19 : decode cX5_readFact 19 = .ok (.getfield 30, 3) := by decide +kernel
theorem dX5_readFact_22 : decode cX5_readFact 22 = .ok (.ldc 98, 2) := by decide +kernel
theorem dX5_readFact_24 : decode cX5_readFact 24 = .ok (.invokevirtual 39, 3) := by decide +kernel
theorem dX5_readFact_27 : decode cX5_readFact 27 = .ok (.iconst (-1), 1) := by decide +kernel
theorem dX5_readFact_28 : decode cX5_readFact 28 = .ok (.if_icmp .eq 7, 3) := by decide +kernel
theorem dX5_readFact_31 : decode cX5_readFact 31 = .ok (.iconst 1, 1) := by decide +kernel
theorem dX5_readFact_32 : decode cX5_readFact 32 = .ok (.goto 4, 3) := by decide +kernel
theorem dX5_readFact_35 : decode cX5_readFact 35 = .ok (.iconst 0, 1) := by decide +kernel
theorem dX5_readFact_36 : decode cX5_readFact 36 = .ok (.istore_n 3, 1) := by decide +kernel
theorem dX5_readFact_37 : decode cX5_readFact 37 = .ok (.iload_n 2, 1) := by decide +kernel
theorem dX5_readFact_38 : decode cX5_readFact 38 = .ok (.ifCond .ne 30, 3) := by decide +kernel
theorem dX5_readFact_41 : decode cX5_readFact 41 = .ok (.iload_n 3, 1) := by decide +kernel
theorem dX5_readFact_42 : decode cX5_readFact 42 = .ok (.ifCond .ne 26, 3) := by decide +kernel
theorem dX5_readFact_45 : decode cX5_readFact 45 = .ok (.aload_n 0, 1) := by decide +kernel
theorem dX5_readFact_46 : decode cX5_readFact 46 = .ok (.invokevirtual 53, 3) := by decide +kernel
theorem dX5_readFact_49 : decode cX5_readFact 49 = .ok (.aload_n 0, 1) := by decide +kernel
theorem dX5_readFact_50 : decode cX5_readFact 50 = .ok (.invokevirtual 100, 3) := by decide +kernel
theorem dX5_readFact_53 : decode cX5_readFact 53 = .ok (.istore 4, 2) := by decide +kernel
theorem dX5_readFact_55 : decode cX5_readFact 55 = .ok (.aload_n 0, 1) := by decide +kernel
theorem dX5_readFact_56 : decode cX5_readFact 56 = .ok (.invokevirtual 53, 3) := by decide +kernel
theorem dX5_readFact_59 : decode cX5_readFact 59 = .ok (.aload_n 0, 1) := by decide +kernel
theorem dX5_readFact_60 : decode cX5_readFact 60 = .ok (.iload 4, 2) := by decide +kernel
theorem dX5_readFact_62 : decode cX5_readFact 62 = .ok (.invokevirtual 89, 3) := by decide +kernel
theorem dX5_readFact_65 : decode cX5_readFact 65 = .ok (.goto 109, 3) := by decide +kernel
theorem dX5_readFact_68 : decode cX5_readFact 68 = .ok (.iload_n 1, 1) := by decide +kernel
theorem dX5_readFact_69 : decode cX5_readFact 69 = .ok (.bipush 10, 2) := by decide +kernel
theorem dX5_readFact_71 : decode cX5_readFact 71 = .ok (.if_icmp .lt 21, 3) := by decide +kernel
theorem dX5_readFact_74 : decode cX5_readFact 74 = .ok (.aload_n 0, 1) := by decide +kernel
theorem dX5_readFact_75 : decode cX5_readFact 75 = .ok (.getfield 30, 3) := by decide +kernel
theorem dX5_readFact_78 : decode cX5_readFact 78 = .ok (.iconst 2, 1) := by decide +kernel
theorem dX5_readFact_79 : decode cX5_readFact 79 = .ok (.aload_n 0, 1) := by decide +kernel
theorem dX5_readFact_80 : decode cX5_readFact 80 = .ok (.getfield 30, 3) := by decide +kernel
theorem dX5_readFact_83 : decode cX5_readFact 83 = .ok (.getfield 43, 3) := by decide +kernel
theorem dX5_readFact_86 : decode cX5_readFact 86 = .ok (.invokevirtual 46, 3) := by decide +kernel
theorem dX5_readFact_89 : decode cX5_readFact 89 = .ok (.goto 85, 3) := by decide +kernel
theorem dX5_readFact_92 : decode cX5_readFact 92 = .ok (.iload_n 3, 1) := by decide +kernel
theorem dX5_readFact_93 : decode cX5_readFact 93 = .ok (.ifCond .eq 26, 3) := by decide +kernel
theorem dX5_readFact_96 : decode cX5_readFact 96 = .ok (.aload_n 0, 1) := by decide +kernel
theorem dX5_readFact_97 : decode cX5_readFact 97 = .ok (.getfield 30, 3) := by decide +kernel
theorem dX5_readFact_100 : decode cX5_readFact 100 = .ok (.invokevirtual 50, 3) := by decide +kernel
theorem dX5_readFact_103 : decode cX5_readFact 103 = .ok (.aload_n 0, 1) := by decide +kernel
theorem dX5_readFact_104 : decode cX5_readFact 104 = .ok (.iload_n 1, 1) := by decide +kernel
theorem dX5_readFact_105 : decode cX5_readFact 105 = .ok (.iconst 1, 1) := by decide +kernel
theorem dX5_readFact_106 : decode cX5_readFact 106 = .ok (.iadd, 1) := by decide +kernel
theorem dX5_readFact_107 : decode cX5_readFact 107 = .ok (.invokevirtual 84, 3) := by decide +kernel
theorem dX5_readFact_110 : decode cX5_readFact 110 = .ok (.aload_n 0, 1) := by decide +kernel
theorem dX5_readFact_111 : decode cX5_readFact 111 = .ok (.bipush (-22), 2) := by decide +kernel
theorem dX5_readFact_113 : decode cX5_readFact 113 = .ok (.invokevirtual 89, 3) := by decide +kernel
theorem dX5_readFact_116 : decode cX5_readFact 116 = .ok (.goto 58, 3) := by decide +kernel
theorem dX5_readFact_119 : decode cX5_readFact 119 = .ok (.aload_n 0, 1) := by decide +kernel
theorem dX5_readFact_120 : decode cX5_readFact 120 = .ok (.getfield 30, 3) := by decide +kernel
theorem dX5_readFact_123 : decode cX5_readFact 123 = .ok (.bipush 91, 2) := by decide +kernel
theorem dX5_readFact_125 : decode cX5_readFact 125 = .ok (.invokevirtual 103, 3) := by decide +kernel
theorem dX5_readFact_128 : decode cX5_readFact 128 = .ok (.pop, 1) := by decide +kernel
theorem dX5_readFact_129 : decode cX5_readFact 129 = .ok (.aload_n 0, 1) := by decide +kernel
theorem dX5_readFact_130 : decode cX5_readFact 130 = .ok (.iload_n 1, 1) := by decide +kernel
theorem dX5_readFact_131 : decode cX5_readFact 131 = .ok (.iconst 1, 1) := by decide +kernel
theorem dX5_readFact_132 : decode cX5_readFact 132 = .ok (.iadd, 1) := by decide +kernel
theorem dX5_readFact_133 : decode cX5_readFact 133 = .ok (.invokevirtual 66, 3) := by decide +kernel
theorem dX5_readFact_136 : decode cX5_readFact 136 = .ok (.aload_n 0, 1) := by decide +kernel
theorem dX5_readFact_137 : decode cX5_readFact 137 = .ok (.getfield 30, 3) := by decide +kernel
theorem dX5_readFact_140 : decode cX5_readFact 140 = .ok (.invokevirtual 56, 3) := by decide +kernel
theorem dX5_readFact_143 : decode cX5_readFact 143 = .ok (.ifCond .ne 31, 3) := by decide +kernel
theorem dX5_readFact_146 : decode cX5_readFact 146 = .ok (.aload_n 0, 1) := by decide +kernel
theorem dX5_readFact_147 : decode cX5_readFact 147 = .ok (.getfield 30, 3) := by decide +kernel
theorem dX5_readFact_150 : decode cX5_readFact 150 = .ok (.ldc 107, 2) := by decide +kernel
theorem dX5_readFact_152 : decode cX5_readFact 152 = .ok (.invokevirtual 109, 3) := by decide +kernel
theorem dX5_readFact_155 : decode cX5_readFact 155 = .ok (.iconst (-1), 1) := by decide +kernel
theorem dX5_readFact_156 : decode cX5_readFact 156 = .ok (.if_icmp .ne 18, 3) := by decide +kernel
theorem dX5_readFact_159 : decode cX5_readFact 159 = .ok (.aload_n 0, 1) := by decide +kernel
theorem dX5_readFact_160 : decode cX5_readFact 160 = .ok (.getfield 30, 3) := by decide +kernel
theorem dX5_readFact_163 : decode cX5_readFact 163 = .ok (.iconst 0, 1) := by decide +kernel
theorem dX5_readFact_164 : decode cX5_readFact 164 = .ok (.aload_n 0, 1) := by decide +kernel
theorem dX5_readFact_165 : decode cX5_readFact 165 = .ok (.getfield 30, 3) := by decide +kernel
theorem dX5_readFact_168 : decode cX5_readFact 168 = .ok (.getfield 43, 3) := by decide +kernel
theorem dX5_readFact_171 : decode cX5_readFact 171 = .ok (.invokevirtual 46, 3) := by decide +kernel
theorem dX5_readFact_174 : decode cX5_readFact 174 = .ok (.return_, 1) := by decide +kernel
theorem dX5_readSign_0 : decode cX5_readSign 0 = .ok (.aload_n 0, 1) := by decide +kernel
theorem dX5_readSign_1 : decode cX5_readSign 1 = .ok (.getfield 30, 3) := by decide +kernel
theorem dX5_readSign_4 : decode cX5_readSign 4 = .ok (.invokevirtual 56, 3) := by decide +kernel
theorem dX5_readSign_7 : decode cX5_readSign 7 = .ok (.ifCond .eq 5, 3) := by decide +kernel
theorem dX5_readSign_10 : decode cX5_readSign 10 = .ok (.iconst (-1), 1) := by decide +kernel
theorem dX5_readSign_11 : decode cX5_readSign 11 = .ok (.ireturn, 1) := by decide +kernel
theorem dX5_readSign_12 : decode cX5_readSign 12 = .ok (.aload_n 0, 1) := by decide +kernel
theorem dX5_readSign_13 : decode cX5_readSign 13 = .ok (.getfield 30, 3) := by decide +kernel
theorem dX5_readSign_16 : decode cX5_readSign 16 = .ok (.invokevirtual 94, 3) := by decide +kernel
theorem dX5_readSign_19 : decode cX5_readSign 19 = .ok (.pop, 1) := by decide +kernel
theorem dX5_readSign_20 : decode cX5_readSign 20 = .ok (.aload_n 0, 1) := by decide +kernel
theorem dX5_readSign_21 : decode cX5_readSign 21 = .ok (.getfield 30, 3) := by decide +kernel
theorem dX5_readSign_24 : decode cX5_readSign 24 = .ok (.getfield 43, 3) := by decide +kernel
theorem dX5_readSign_27 : decode cX5_readSign 27 = .ok (.istore_n 1, 1) := by decide +kernel
theorem dX5_readSign_28 : decode cX5_readSign 28 = .ok (.aload_n 0, 1) := by decide +kernel
theorem dX5_readSign_29 : decode cX5_readSign 29 = .ok (.getfield 30, 3) := by decide +kernel
theorem dX5_readSign_32 : decode cX5_readSign 32 = .ok (.ldc 112, 2) := by decide +kernel
theorem dX5_readSign_34 : decode cX5_readSign 34 = .ok (.invokevirtual 109, 3) := by decide +kernel
theorem dX5_readSign_37 : decode cX5_readSign 37 = .ok (.istore_n 2, 1) := by decide +kernel
theorem dX5_readSign_38 : decode cX5_readSign 38 = .ok (.iload_n 2, 1) := by decide +kernel
theorem dX5_readSign_39 : decode cX5_readSign 39 = .ok (.iconst (-1), 1) := by decide +kernel
theorem dX5_readSign_40 : decode cX5_readSign 40 = .ok (.if_icmp .ne 12, 3) := by decide +kernel
theorem dX5_readSign_43 : decode cX5_readSign 43 = .ok (.aload_n 0, 1) := by decide +kernel
theorem dX5_readSign_44 : decode cX5_readSign 44 = .ok (.getfield 30, 3) := by decide +kernel
theorem dX5_readSign_47 : decode cX5_readSign 47 = .ok (.iconst 0, 1) := by decide +kernel
theorem dX5_readSign_48 : decode cX5_readSign 48 = .ok (.iload_n 1, 1) := by decide +kernel
theorem dX5_readSign_49 : decode cX5_readSign 49 = .ok (.invokevirtual 46, 3) := by decide +kernel
theorem dX5_readSign_52 : decode cX5_readSign 52 = .ok (.aload_n 0, 1) := by decide +kernel
theorem dX5_readSign_53 : decode cX5_readSign 53 = .ok (.iload_n 1, 1) := by decide +kernel
theorem dX5_readSign_54 : decode cX5_readSign 54 = .ok (.invokevirtual 114, 3) := by decide +kernel
theorem dX5_readSign_57 : decode cX5_readSign 57 = .ok (.iload_n 2, 1) := by decide +kernel
theorem dX5_readSign_58 : decode cX5_readSign 58 = .ok (.iconst 1, 1) := by decide +kernel
theorem dX5_readSign_59 : decode cX5_readSign 59 = .ok (.if_icmp .ne 6, 3) := by decide +kernel
theorem dX5_readSign_62 : decode cX5_readSign 62 = .ok (.bipush (-17), 2) := by decide +kernel
theorem dX5_readSign_64 : decode cX5_readSign 64 = .ok (.ireturn, 1) := by decide +kernel
theorem dX5_readSign_65 : decode cX5_readSign 65 = .ok (.aload_n 0, 1) := by decide +kernel
theorem dX5_readSign_66 : decode cX5_readSign 66 = .ok (.getfield 30, 3) := by decide +kernel
theorem dX5_readSign_69 : decode cX5_readSign 69 = .ok (.bipush 61, 2) := by decide +kernel
theorem dX5_readSign_71 : decode cX5_readSign 71 = .ok (.invokevirtual 103, 3) := by decide +kernel
theorem dX5_readSign_74 : decode cX5_readSign 74 = .ok (.istore_n 3, 1) := by decide +kernel
theorem dX5_readSign_75 : decode cX5_readSign 75 = .ok (.iload_n 2, 1) := by decide +kernel
theorem dX5_readSign_76 : decode cX5_readSign 76 = .ok (.ifCond .ne 15, 3) := by decide +kernel
theorem dX5_readSign_79 : decode cX5_readSign 79 = .ok (.iload_n 3, 1) := by decide +kernel
theorem dX5_readSign_80 : decode cX5_readSign 80 = .ok (.ifCond .eq 8, 3) := by decide +kernel
theorem dX5_readSign_83 : decode cX5_readSign 83 = .ok (.bipush (-16), 2) := by decide +kernel
theorem dX5_readSign_85 : decode cX5_readSign 85 = .ok (.goto 5, 3) := by decide +kernel
theorem dX5_readSign_88 : decode cX5_readSign 88 = .ok (.bipush (-15), 2) := by decide +kernel
theorem dX5_readSign_90 : decode cX5_readSign 90 = .ok (.ireturn, 1) := by decide +kernel
theorem dX5_readSign_91 : decode cX5_readSign 91 = .ok (.iload_n 3, 1) := by decide +kernel
theorem dX5_readSign_92 : decode cX5_readSign 92 = .ok (.ifCond .eq 8, 3) := by decide +kernel
theorem dX5_readSign_95 : decode cX5_readSign 95 = .ok (.bipush (-18), 2) := by decide +kernel
theorem dX5_readSign_97 : decode cX5_readSign 97 = .ok (.goto 5, 3) := by decide +kernel
theorem dX5_readSign_100 : decode cX5_readSign 100 = .ok (.bipush (-19), 2) := by decide +kernel
theorem dX5_readSign_102 : decode cX5_readSign 102 = .ok (.ireturn, 1) := by decide +kernel
theorem dX5_readSum_0 : decode cX5_readSum 0 = .ok (.aload_n 0, 1) := by decide +kernel
theorem dX5_readSum_1 : decode cX5_readSum 1 = .ok (.getfield 30, 3) := by decide +kernel
theorem dX5_readSum_4 : decode cX5_readSum 4 = .ok (.invokevirtual 56, 3) := by decide +kernel
theorem dX5_readSum_7 : decode cX5_readSum 7 = .ok (.ifCond .eq 4, 3) := by decide +kernel
theorem dX5_readSum_10 : decode cX5_readSum 10 = .ok (.return_, 1) := by decide +kernel
theorem dX5_readSum_11 : decode cX5_readSum 11 = .ok (.iconst (-1), 1) := by decide +kernel
theorem dX5_readSum_12 : decode cX5_readSum 12 = .ok (.istore_n 1, 1) := by decide +kernel
theorem dX5_readSum_13 : decode cX5_readSum 13 = .ok (.aload_n 0, 1) := by decide +kernel
theorem dX5_readSum_14 : decode cX5_readSum 14 = .ok (.invokevirtual 117, 3) := by decide +kernel
theorem dX5_readSum_17 : decode cX5_readSum 17 = .ok (.iconst 0, 1) := by decide +kernel
theorem dX5_readSum_18 : decode cX5_readSum 18 = .ok (.istore_n 2, 1) := by decide +kernel
theorem dX5_readSum_19 : decode cX5_readSum 19 = .ok (.iload_n 2, 1) := by decide +kernel
theorem dX5_readSum_20 : decode cX5_readSum 20 = .ok (.sipush 400, 3) := by decide +kernel
theorem dX5_readSum_23 : decode cX5_readSum 23 = .ok (.if_icmp .ge 76, 3) := by decide +kernel
theorem dX5_readSum_26 : decode cX5_readSum 26 = .ok (.aload_n 0, 1) := by decide +kernel
theorem dX5_readSum_27 : decode cX5_readSum 27 = .ok (.getfield 30, 3) := by decide +kernel
theorem dX5_readSum_30 : decode cX5_readSum 30 = .ok (.invokevirtual 56, 3) := by decide +kernel
theorem dX5_readSum_33 : decode cX5_readSum 33 = .ok (.ifCond .ne 66, 3) := by decide +kernel
theorem dX5_readSum_36 : decode cX5_readSum 36 = .ok (.aload_n 0, 1) := by decide +kernel
theorem dX5_readSum_37 : decode cX5_readSum 37 = .ok (.getfield 30, 3) := by decide +kernel
theorem dX5_readSum_40 : decode cX5_readSum 40 = .ok (.ldc 120, 2) := by decide +kernel
theorem dX5_readSum_42 : decode cX5_readSum 42 = .ok (.invokevirtual 109, 3) := by decide +kernel
theorem dX5_readSum_45 : decode cX5_readSum 45 = .ok (.istore_n 3, 1) := by decide +kernel
theorem dX5_readSum_46 : decode cX5_readSum 46 = .ok (.iload_n 3, 1) := by decide +kernel
theorem dX5_readSum_47 : decode cX5_readSum 47 = .ok (.iconst (-1), 1) := by decide +kernel
theorem dX5_readSum_48 : decode cX5_readSum 48 = .ok (.if_icmp .ne 6, 3) := by decide +kernel
theorem dX5_readSum_51 : decode cX5_readSum 51 = .ok (.goto 48, 3) := by decide +kernel
theorem dX5_readSum_54 : decode cX5_readSum 54 = .ok (.iload_n 3, 1) := by decide +kernel
theorem dX5_readSum_55 : decode cX5_readSum 55 = .ok (.iconst 1, 1) := by decide +kernel
theorem dX5_readSum_56 : decode cX5_readSum 56 = .ok (.if_icmp .le 18, 3) := by decide +kernel
theorem dX5_readSum_59 : decode cX5_readSum 59 = .ok (.aload_n 0, 1) := by decide +kernel
theorem dX5_readSum_60 : decode cX5_readSum 60 = .ok (.invokevirtual 117, 3) := by decide +kernel
theorem dX5_readSum_63 : decode cX5_readSum 63 = .ok (.aload_n 0, 1) := by decide +kernel
theorem dX5_readSum_64 : decode cX5_readSum 64 = .ok (.bipush (-10), 2) := by decide +kernel
theorem dX5_readSum_66 : decode cX5_readSum 66 = .ok (.iload_n 3, 1) := by decide +kernel
theorem dX5_readSum_67 : decode cX5_readSum 67 = .ok (.isub, 1) := by decide +kernel
theorem dX5_readSum_68 : decode cX5_readSum 68 = .ok (.invokevirtual 89, 3) := by decide +kernel
theorem dX5_readSum_71 : decode cX5_readSum 71 = .ok (.goto 22, 3) := by decide +kernel
theorem dX5_readSum_74 : decode cX5_readSum 74 = .ok (.iload_n 1, 1) := by decide +kernel
theorem dX5_readSum_75 : decode cX5_readSum 75 = .ok (.iconst (-1), 1) := by decide +kernel
theorem dX5_readSum_76 : decode cX5_readSum 76 = .ok (.if_icmp .eq 11, 3) := by decide +kernel
theorem dX5_readSum_79 : decode cX5_readSum 79 = .ok (.aload_n 0, 1) := by decide +kernel
theorem dX5_readSum_80 : decode cX5_readSum 80 = .ok (.bipush (-10), 2) := by decide +kernel
theorem dX5_readSum_82 : decode cX5_readSum 82 = .ok (.iload_n 1, 1) := by decide +kernel
theorem dX5_readSum_83 : decode cX5_readSum 83 = .ok (.isub, 1) := by decide +kernel
theorem dX5_readSum_84 : decode cX5_readSum 84 = .ok (.invokevirtual 89, 3) := by decide +kernel
theorem dX5_readSum_87 : decode cX5_readSum 87 = .ok (.iload_n 3, 1) := by decide +kernel
theorem dX5_readSum_88 : decode cX5_readSum 88 = .ok (.istore_n 1, 1) := by decide +kernel
theorem dX5_readSum_89 : decode cX5_readSum 89 = .ok (.aload_n 0, 1) := by decide +kernel
theorem dX5_readSum_90 : decode cX5_readSum 90 = .ok (.invokevirtual 117, 3) := by decide +kernel
theorem dX5_readSum_93 : decode cX5_readSum 93 = .ok (.iinc 2 1, 3) := by decide +kernel
theorem dX5_readSum_96 : decode cX5_readSum 96 = .ok (.goto (-77), 3) := by decide +kernel
theorem dX5_readSum_99 : decode cX5_readSum 99 = .ok (.iload_n 1, 1) := by decide +kernel
theorem dX5_readSum_100 : decode cX5_readSum 100 = .ok (.iconst (-1), 1) := by decide +kernel
theorem dX5_readSum_101 : decode cX5_readSum 101 = .ok (.if_icmp .eq 11, 3) := by decide +kernel
theorem dX5_readSum_104 : decode cX5_readSum 104 = .ok (.aload_n 0, 1) := by decide +kernel
theorem dX5_readSum_105 : decode cX5_readSum 105 = .ok (.bipush (-10), 2) := by decide +kernel
theorem dX5_readSum_107 : decode cX5_readSum 107 = .ok (.iload_n 1, 1) := by decide +kernel
theorem dX5_readSum_108 : decode cX5_readSum 108 = .ok (.isub, 1) := by decide +kernel
theorem dX5_readSum_109 : decode cX5_readSum 109 = .ok (.invokevirtual 89, 3) := by decide +kernel
theorem dX5_readSum_112 : decode cX5_readSum 112 = .ok (.return_, 1) := by decide +kernel
theorem dX5_readValue_0 : decode cX5_readValue 0 = .ok (.aload_n 0, 1) := by decide +kernel
theorem dX5_readValue_1 : decode cX5_readValue 1 = .ok (.getfield 30, 3) := by decide +kernel
theorem dX5_readValue_4 : decode cX5_readValue 4 = .ok (.invokevirtual 94, 3) := by decide +kernel
theorem dX5_readValue_7 : decode cX5_readValue 7 = .ok (.istore_n 1, 1) := by decide +kernel
theorem dX5_readValue_8 : decode cX5_readValue 8 = .ok (.aload_n 0, 1) := by decide +kernel
theorem dX5_readValue_9 : decode cX5_readValue 9 = .ok (.getfield 30, 3) := by decide +kernel
theorem dX5_readValue_12 : decode cX5_readValue 12 = .ok (.getfield 43, 3) := by decide +kernel
theorem dX5_readValue_15 : decode cX5_readValue 15 = .ok (.istore_n 2, 1) := by decide +kernel
theorem dX5_readValue_16 : decode cX5_readValue 16 = .ok (.iconst 0, 1) := by decide +kernel
theorem dX5_readValue_17 : decode cX5_readValue 17 = .ok (.istore_n 3, 1) := by decide +kernel
theorem dX5_readValue_18 : decode cX5_readValue 18 = .ok (.iload_n 1, 1) := by decide +kernel
theorem dX5_readValue_19 : decode cX5_readValue 19 = .ok (.bipush 97, 2) := by decide +kernel
theorem dX5_readValue_21 : decode cX5_readValue 21 = .ok (.if_icmp .lt 50, 3) := by decide +kernel
theorem dX5_readValue_24 : decode cX5_readValue 24 = .ok (.iload_n 1, 1) := by decide +kernel
theorem dX5_readValue_25 : decode cX5_readValue 25 = .ok (.bipush 122, 2) := by decide +kernel
theorem dX5_readValue_27 : decode cX5_readValue 27 = .ok (.if_icmp .gt 44, 3) := by decide +kernel
theorem dX5_readValue_30 : decode cX5_readValue 30 = .ok (.aload_n 0, 1) := by decide +kernel
theorem dX5_readValue_31 : decode cX5_readValue 31 = .ok (.getfield 30, 3) := by decide +kernel
theorem dX5_readValue_34 : decode cX5_readValue 34 = .ok (.ldc 122, 2) := by decide +kernel
theorem dX5_readValue_36 : decode cX5_readValue 36 = .ok (.invokevirtual 39, 3) := by decide +kernel
theorem dX5_readValue_39 : decode cX5_readValue 39 = .ok (.istore 4, 2) := by decide +kernel
theorem dX5_readValue_41 : decode cX5_readValue 41 = .ok (.iload 4, 2) := by decide +kernel
theorem dX5_readValue_43 : decode cX5_readValue 43 = .ok (.iconst (-1), 1) := by decide +kernel
theorem dX5_readValue_44 : decode cX5_readValue 44 = .ok (.if_icmp .ne 12, 3) := by decide +kernel
theorem dX5_readValue_47 : decode cX5_readValue 47 = .ok (.aload_n 0, 1) := by decide +kernel
theorem dX5_readValue_48 : decode cX5_readValue 48 = .ok (.getfield 30, 3) := by decide +kernel
theorem dX5_readValue_51 : decode cX5_readValue 51 = .ok (.iconst 0, 1) := by decide +kernel
theorem dX5_readValue_52 : decode cX5_readValue 52 = .ok (.iload_n 2, 1) := by decide +kernel
theorem dX5_readValue_53 : decode cX5_readValue 53 = .ok (.invokevirtual 46, 3) := by decide +kernel
theorem dX5_readValue_56 : decode cX5_readValue 56 = .ok (.aload_n 0, 1) := by decide +kernel
theorem dX5_readValue_57 : decode cX5_readValue 57 = .ok (.getfield 30, 3) := by decide +kernel
theorem dX5_readValue_60 : decode cX5_readValue 60 = .ok (.invokevirtual 50, 3) := by decide +kernel
theorem dX5_readValue_63 : decode cX5_readValue 63 = .ok (.iconst (-1), 1) := by decide +kernel
theorem dX5_readValue_64 : decode cX5_readValue 64 = .ok (.iload 4, 2) := by decide +kernel
theorem dX5_readValue_66 : decode cX5_readValue 66 = .ok (.isub, 1) := by decide +kernel
theorem dX5_readValue_67 : decode cX5_readValue 67 = .ok (.istore_n 3, 1) := by decide +kernel
theorem dX5_readValue_68 : decode cX5_readValue 68 = .ok (.goto 14, 3) := by decide +kernel
theorem dX5_readValue_71 : decode cX5_readValue 71 = .ok (.aload_n 0, 1) := by decide +kernel
theorem dX5_readValue_72 : decode cX5_readValue 72 = .ok (.getfield 30, 3) := by decide +kernel
theorem dX5_readValue_75 : decode cX5_readValue 75 = .ok (.iconst 0, 1) := by decide +kernel
theorem dX5_readValue_76 : decode cX5_readValue 76 = .ok (.ldc 124, 2) := by decide +kernel
theorem dX5_readValue_78 : decode cX5_readValue 78 = .ok (.invokevirtual 125, 3) := by decide +kernel
theorem dX5_readValue_81 : decode cX5_readValue 81 = .ok (.istore_n 3, 1) := by decide +kernel
theorem dX5_readValue_82 : decode cX5_readValue 82 = .ok (.aload_n 0, 1) := by decide +kernel
theorem dX5_readValue_83 : decode cX5_readValue 83 = .ok (.iload_n 2, 1) := by decide +kernel
theorem dX5_readValue_84 : decode cX5_readValue 84 = .ok (.invokevirtual 114, 3) := by decide +kernel
theorem dX5_readValue_87 : decode cX5_readValue 87 = .ok (.aload_n 0, 1) := by decide +kernel
theorem dX5_readValue_88 : decode cX5_readValue 88 = .ok (.iload_n 3, 1) := by decide +kernel
theorem dX5_readValue_89 : decode cX5_readValue 89 = .ok (.invokevirtual 89, 3) := by decide +kernel
theorem dX5_readValue_92 : decode cX5_readValue 92 = .ok (.return_, 1) := by decide +kernel
theorem dX5_countAt_0 : decode cX5_countAt 0 = .ok (.aload_n 0, 1) := by decide +kernel
theorem dX5_countAt_1 : decode cX5_countAt 1 = .ok (.getfield 21, 3) := by decide +kernel
theorem dX5_countAt_4 : decode cX5_countAt 4 = .ok (.bipush 60, 2) := by decide +kernel
theorem dX5_countAt_6 : decode cX5_countAt 6 = .ok (.if_icmp .lt 12, 3) := by decide +kernel
theorem dX5_countAt_9 : decode cX5_countAt 9 = .ok (.aload_n 0, 1) := by decide +kernel
theorem dX5_countAt_10 : decode cX5_countAt 10 = .ok (.getfield 30, 3) := by decide +kernel
theorem dX5_countAt_13 : decode cX5_countAt 13 = .ok (.iconst 3, 1) := by decide +kernel
theorem dX5_countAt_14 : decode cX5_countAt 14 = .ok (.iload_n 1, 1) := by decide +kernel
theorem dX5_countAt_15 : decode cX5_countAt 15 = .ok (.invokevirtual 46, 3) := by decide +kernel
theorem dX5_countAt_18 : decode cX5_countAt 18 = .ok (.aload_n 0, 1) := by decide +kernel
theorem dX5_countAt_19 : decode cX5_countAt 19 = .ok (.dup, 1) := by decide +kernel
theorem dX5_countAt_20 : decode cX5_countAt 20 = .ok (.getfield 21, 3) := by decide +kernel
theorem dX5_countAt_23 : decode cX5_countAt 23 = .ok (.iconst 1, 1) := by decide +kernel
theorem dX5_countAt_24 : decode cX5_countAt 24 = .ok (.iadd, 1) := by decide +kernel
theorem dX5_countAt_25 : decode cX5_countAt 25 = .ok (.putfield 21, 3) := by decide +kernel
theorem dX5_countAt_28 : decode cX5_countAt 28 = .ok (.return_, 1) := by decide +kernel
theorem dX5_emit_0 : decode cX5_emit 0 = .ok (.aload_n 0, 1) := by decide +kernel
theorem dX5_emit_1 : decode cX5_emit 1 = .ok (.getfield 17, 3) := by decide +kernel
theorem dX5_emit_4 : decode cX5_emit 4 = .ok (.aload_n 0, 1) := by decide +kernel
theorem dX5_emit_5 : decode cX5_emit 5 = .ok (.getfield 11, 3) := by decide +kernel
theorem dX5_emit_8 : decode cX5_emit 8 = .ok (.arraylength, 1) := by decide +kernel
theorem dX5_emit_9 : decode cX5_emit 9 = .ok (.if_icmp .ge 23, 3) := by decide +kernel
theorem dX5_emit_12 : decode cX5_emit 12 = .ok (.aload_n 0, 1) := by decide +kernel
theorem dX5_emit_13 : decode cX5_emit 13 = .ok (.getfield 11, 3) := by decide +kernel
theorem dX5_emit_16 : decode cX5_emit 16 = .ok (.aload_n 0, 1) := by decide +kernel
theorem dX5_emit_17 : decode cX5_emit 17 = .ok (.getfield 17, 3) := by decide +kernel
theorem dX5_emit_20 : decode cX5_emit 20 = .ok (.iload_n 1, 1) := by decide +kernel
theorem dX5_emit_21 : decode cX5_emit 21 = .ok (.iastore, 1) := by decide +kernel
theorem dX5_emit_22 : decode cX5_emit 22 = .ok (.aload_n 0, 1) := by decide +kernel
theorem dX5_emit_23 : decode cX5_emit 23 = .ok (.dup, 1) := by decide +kernel
theorem dX5_emit_24 : decode cX5_emit 24 = .ok (.getfield 17, 3) := by decide +kernel
theorem dX5_emit_27 : decode cX5_emit 27 = .ok (.iconst 1, 1) := by decide +kernel
theorem dX5_emit_28 : decode cX5_emit 28 = .ok (.iadd, 1) := by decide +kernel
theorem dX5_emit_29 : decode cX5_emit 29 = .ok (.putfield 17, 3) := by decide +kernel
theorem dX5_emit_32 : decode cX5_emit 32 = .ok (.return_, 1) := by decide +kernel
theorem dX6_init_0 : decode cX6_init 0 = .ok (.aload_n 0, 1) := by decide +kernel
theorem dX6_init_1 : decode cX6_init 1 = .ok (.invokespecial 3, 3) := by decide +kernel
theorem dX6_init_4 : decode cX6_init 4 = .ok (.aload_n 0, 1) := by decide +kernel
theorem dX6_init_5 : decode cX6_init 5 = .ok (.iconst 0, 1) := by decide +kernel
theorem dX6_init_6 : decode cX6_init 6 = .ok (.putfield 9, 3) := by decide +kernel
theorem dX6_init_9 : decode cX6_init 9 = .ok (.aload_n 0, 1) := by decide +kernel
theorem dX6_init_10 : decode cX6_init 10 = .ok (.iconst 0, 1) := by decide +kernel
theorem dX6_init_11 : decode cX6_init 11 = .ok (.putfield 15, 3) := by decide +kernel
theorem dX6_init_14 : decode cX6_init 14 = .ok (.aload_n 0, 1) := by decide +kernel
theorem dX6_init_15 : decode cX6_init 15 = .ok (.iconst 0, 1) := by decide +kernel
theorem dX6_init_16 : decode cX6_init 16 = .ok (.putfield 18, 3) := by decide +kernel
theorem dX6_init_19 : decode cX6_init 19 = .ok (.aload_n 0, 1) := by decide +kernel
theorem dX6_init_20 : decode cX6_init 20 = .ok (.iconst 0, 1) := by decide +kernel
theorem dX6_init_21 : decode cX6_init 21 = .ok (.putfield 21, 3) := by decide +kernel
theorem dX6_init_24 : decode cX6_init 24 = .ok (.aload_n 0, 1) := by decide +kernel
theorem dX6_init_25 : decode cX6_init 25 = .ok (.bipush 80, 2) := by decide +kernel
theorem dX6_init_27 : decode cX6_init 27 = .ok (.newarray .int, 2) := by decide +kernel
theorem dX6_init_29 : decode cX6_init 29 = .ok (.putfield 24, 3) := by decide +kernel
theorem dX6_init_32 : decode cX6_init 32 = .ok (.aload_n 0, 1) := by decide +kernel
theorem dX6_init_33 : decode cX6_init 33 = .ok (.bipush 80, 2) := by decide +kernel
theorem dX6_init_35 : decode cX6_init 35 = .ok (.newarray .int, 2) := by decide +kernel
theorem dX6_init_37 : decode cX6_init 37 = .ok (.putfield 28, 3) := by decide +kernel
theorem dX6_init_40 : decode cX6_init 40 = .ok (.aload_n 0, 1) := by decide +kernel
theorem dX6_init_41 : decode cX6_init 41 = .ok (.bipush 80, 2) := by decide +kernel
theorem dX6_init_43 : decode cX6_init 43 = .ok (.newarray .int, 2) := by decide +kernel
theorem dX6_init_45 : decode cX6_init 45 = .ok (.putfield 31, 3) := by decide +kernel
theorem dX6_init_48 : decode cX6_init 48 = .ok (.aload_n 0, 1) := by decide +kernel
theorem dX6_init_49 : decode cX6_init 49 = .ok (.sipush 400, 3) := by decide +kernel
theorem dX6_init_52 : decode cX6_init 52 = .ok (.newarray .int, 2) := by decide +kernel
theorem dX6_init_54 : decode cX6_init 54 = .ok (.putfield 34, 3) := by decide +kernel
theorem dX6_init_57 : decode cX6_init 57 = .ok (.aload_n 0, 1) := by decide +kernel
theorem dX6_init_58 : decode cX6_init 58 = .ok (.iconst 0, 1) := by decide +kernel
theorem dX6_init_59 : decode cX6_init 59 = .ok (.putfield 37, 3) := by decide +kernel
theorem dX6_init_62 : decode cX6_init 62 = .ok (.aload_n 0, 1) := by decide +kernel
theorem dX6_init_63 : decode cX6_init 63 = .ok (.bipush 7, 2) := by decide +kernel
theorem dX6_init_65 : decode cX6_init 65 = .ok (.newarray .int, 2) := by decide +kernel
theorem dX6_init_67 : decode cX6_init 67 = .ok (.putfield 40, 3) := by decide +kernel
theorem dX6_init_70 : decode cX6_init 70 = .ok (.aload_n 0, 1) := by decide +kernel
theorem dX6_init_71 : decode cX6_init 71 = .ok (.bipush 7, 2) := by decide +kernel
theorem dX6_init_73 : decode cX6_init 73 = .ok (.newarray .int, 2) := by decide +kernel
theorem dX6_init_75 : decode cX6_init 75 = .ok (.putfield 43, 3) := by decide +kernel
theorem dX6_init_78 : decode cX6_init 78 = .ok (.aload_n 0, 1) := by decide +kernel
theorem dX6_init_79 : decode cX6_init 79 = .ok (.bipush 7, 2) := by decide +kernel
theorem dX6_init_81 : decode cX6_init 81 = .ok (.newarray .int, 2) := by decide +kernel
theorem dX6_init_83 : decode cX6_init 83 = .ok (.putfield 46, 3) := by decide +kernel
theorem dX6_init_86 : decode cX6_init 86 = .ok (.aload_n 0, 1) := by decide +kernel
theorem dX6_init_87 : decode cX6_init 87 = .ok (.iconst 0, 1) := by decide +kernel
theorem dX6_init_88 : decode cX6_init 88 = .ok (.putfield 49, 3) := by decide +kernel
theorem dX6_init_91 : decode cX6_init 91 = .ok (.aload_n 0, 1) := by decide +kernel
theorem dX6_init_92 : decode cX6_init 92 = .ok (.bipush 8, 2) := by decide +kernel
theorem dX6_init_94 : decode cX6_init 94 = .ok (.newarray .int, 2) := by decide +kernel
theorem dX6_init_96 : decode cX6_init 96 = .ok (.putfield 52, 3) := by decide +kernel
theorem dX6_init_99 : decode cX6_init 99 = .ok (.aload_n 0, 1) := by decide +kernel
theorem dX6_init_100 : decode cX6_init 100 = .ok (.bipush 8, 2) := by decide +kernel
theorem dX6_init_102 : decode cX6_init 102 = .ok (.newarray .int, 2) := by decide +kernel
theorem dX6_init_104 : decode cX6_init 104 = .ok (.putfield 55, 3) := by decide +kernel
theorem dX6_init_107 : decode cX6_init 107 = .ok (.return_, 1) := by decide +kernel
theorem dX6_clear_0 : decode cX6_clear 0 = .ok (.aload_n 0, 1) := by decide +kernel
theorem dX6_clear_1 : decode cX6_clear 1 = .ok (.iconst 0, 1) := by decide +kernel
theorem dX6_clear_2 : decode cX6_clear 2 = .ok (.putfield 9, 3) := by decide +kernel
theorem dX6_clear_5 : decode cX6_clear 5 = .ok (.aload_n 0, 1) := by decide +kernel
theorem dX6_clear_6 : decode cX6_clear 6 = .ok (.iconst 0, 1) := by decide +kernel
theorem dX6_clear_7 : decode cX6_clear 7 = .ok (.putfield 15, 3) := by decide +kernel
theorem dX6_clear_10 : decode cX6_clear 10 = .ok (.aload_n 0, 1) := by decide +kernel
theorem dX6_clear_11 : decode cX6_clear 11 = .ok (.iconst 0, 1) := by decide +kernel
theorem dX6_clear_12 : decode cX6_clear 12 = .ok (.putfield 18, 3) := by decide +kernel
theorem dX6_clear_15 : decode cX6_clear 15 = .ok (.aload_n 0, 1) := by decide +kernel
theorem dX6_clear_16 : decode cX6_clear 16 = .ok (.iconst 0, 1) := by decide +kernel
theorem dX6_clear_17 : decode cX6_clear 17 = .ok (.putfield 21, 3) := by decide +kernel
theorem dX6_clear_20 : decode cX6_clear 20 = .ok (.aload_n 0, 1) := by decide +kernel
theorem dX6_clear_21 : decode cX6_clear 21 = .ok (.iconst 0, 1) := by decide +kernel
theorem dX6_clear_22 : decode cX6_clear 22 = .ok (.putfield 37, 3) := by decide +kernel
theorem dX6_clear_25 : decode cX6_clear 25 = .ok (.aload_n 0, 1) := by decide +kernel
theorem dX6_clear_26 : decode cX6_clear 26 = .ok (.iconst 0, 1) := by decide +kernel
theorem dX6_clear_27 : decode cX6_clear 27 = .ok (.putfield 49, 3) := by decide +kernel
theorem dX6_clear_30 : decode cX6_clear 30 = .ok (.return_, 1) := by decide +kernel
theorem dX6_layOut_0 : decode cX6_layOut 0 = .ok (.aload_n 0, 1) := by decide +kernel
theorem dX6_layOut_1 : decode cX6_layOut 1 = .ok (.iload_n 1, 1) := by decide +kernel
theorem dX6_layOut_2 : decode cX6_layOut 2 = .ok (.putfield 9, 3) := by decide +kernel
theorem dX6_layOut_5 : decode cX6_layOut 5 = .ok (.aload_n 0, 1) := by decide +kernel
theorem dX6_layOut_6 : decode cX6_layOut 6 = .ok (.iload_n 2, 1) := by decide +kernel
theorem dX6_layOut_7 : decode cX6_layOut 7 = .ok (.putfield 15, 3) := by decide +kernel
theorem dX6_layOut_10 : decode cX6_layOut 10 = .ok (.iconst 0, 1) := by decide +kernel
theorem dX6_layOut_11 : decode cX6_layOut 11 = .ok (.istore_n 3, 1) := by decide +kernel
theorem dX6_layOut_12 : decode cX6_layOut 12 = .ok (.iload_n 3, 1) := by decide +kernel
theorem dX6_layOut_13 : decode cX6_layOut 13 = .ok (.aload_n 0, 1) := by decide +kernel
theorem dX6_layOut_14 : decode cX6_layOut 14 = .ok (.getfield 15, 3) := by decide +kernel
theorem dX6_layOut_17 : decode cX6_layOut 17 = .ok (.if_icmp .ge 208, 3) := by decide +kernel
theorem dX6_layOut_20 : decode cX6_layOut 20 = .ok (.iconst 0, 1) := by decide +kernel
theorem dX6_layOut_21 : decode cX6_layOut 21 = .ok (.istore 4, 2) := by decide +kernel
theorem dX6_layOut_23 : decode cX6_layOut 23 = .ok (.iload 4, 2) := by decide +kernel
theorem dX6_layOut_25 : decode cX6_layOut 25 = .ok (.aload_n 0, 1) := by decide +kernel
theorem dX6_layOut_26 : decode cX6_layOut 26 = .ok (.getfield 9, 3) := by decide +kernel
theorem dX6_layOut_29 : decode cX6_layOut 29 = .ok (.if_icmp .ge 190, 3) := by decide +kernel
theorem dX6_layOut_32 : decode cX6_layOut 32 = .ok (.aload_n 0, 1) := by decide +kernel
theorem dX6_layOut_33 : decode cX6_layOut 33 = .ok (.getfield 18, 3) := by decide +kernel
theorem dX6_layOut_36 : decode cX6_layOut 36 = .ok (.bipush 80, 2) := by decide +kernel
theorem dX6_layOut_38 : decode cX6_layOut 38 = .ok (.if_icmp .ge 181, 3) := by decide +kernel
theorem dX6_layOut_41 : decode cX6_layOut 41 = .ok (.aload_n 0, 1) := by decide +kernel
theorem dX6_layOut_42 : decode cX6_layOut 42 = .ok (.getfield 24, 3) := by decide +kernel
theorem dX6_layOut_45 : decode cX6_layOut 45 = .ok (.aload_n 0, 1) := by decide +kernel
theorem dX6_layOut_46 : decode cX6_layOut 46 = .ok (.getfield 18, 3) := by decide +kernel
theorem dX6_layOut_49 : decode cX6_layOut 49 = .ok (.iload 4, 2) := by decide +kernel
theorem dX6_layOut_51 : decode cX6_layOut 51 = .ok (.iastore, 1) := by decide +kernel
theorem dX6_layOut_52 : decode cX6_layOut 52 = .ok (.aload_n 0, 1) := by decide +kernel
theorem dX6_layOut_53 : decode cX6_layOut 53 = .ok (.getfield 28, 3) := by decide +kernel
theorem dX6_layOut_56 : decode cX6_layOut 56 = .ok (.aload_n 0, 1) := by decide +kernel
theorem dX6_layOut_57 : decode cX6_layOut 57 = .ok (.getfield 18, 3) := by decide +kernel
theorem dX6_layOut_60 : decode cX6_layOut 60 = .ok (.iload_n 3, 1) := by decide +kernel
theorem dX6_layOut_61 : decode cX6_layOut 61 = .ok (.iastore, 1) := by decide +kernel
theorem dX6_layOut_62 : decode cX6_layOut 62 = .ok (.aload_n 0, 1) := by decide +kernel
theorem dX6_layOut_63 : decode cX6_layOut 63 = .ok (.getfield 31, 3) := by decide +kernel
theorem dX6_layOut_66 : decode cX6_layOut 66 = .ok (.aload_n 0, 1) := by decide +kernel
theorem dX6_layOut_67 : decode cX6_layOut 67 = .ok (.getfield 18, 3) := by decide +kernel
theorem dX6_layOut_70 : decode cX6_layOut 70 = .ok (.iload 4, 2) := by decide +kernel
theorem dX6_layOut_72 : decode cX6_layOut 72 = .ok (.aload_n 0, 1) := by decide +kernel
theorem dX6_layOut_73 : decode cX6_layOut 73 = .ok (.getfield 9, 3) := by decide +kernel
theorem dX6_layOut_76 : decode cX6_layOut 76 = .ok (.iconst 1, 1) := by decide +kernel
theorem dX6_layOut_77 : decode cX6_layOut 77 = .ok (.isub, 1) := by decide +kernel
theorem dX6_layOut_78 : decode cX6_layOut 78 = .ok (.iload 4, 2) := by decide +kernel
theorem dX6_layOut_80 : decode cX6_layOut 80 = .ok (.isub, 1) := by decide +kernel
theorem dX6_layOut_81 : decode cX6_layOut 81 = .ok (.invokestatic 58, 3) := by decide +kernel
theorem dX6_layOut_84 : decode cX6_layOut 84 = .ok (.iload_n 3, 1) := by decide +kernel
theorem dX6_layOut_85 : decode cX6_layOut 85 = .ok (.aload_n 0, 1) := by decide +kernel
theorem dX6_layOut_86 : decode cX6_layOut 86 = .ok (.getfield 15, 3) := by decide +kernel
theorem dX6_layOut_89 : decode cX6_layOut 89 = .ok (.iconst 1, 1) := by decide +kernel
theorem dX6_layOut_90 : decode cX6_layOut 90 = .ok (.isub, 1) := by decide +kernel
theorem dX6_layOut_91 : decode cX6_layOut 91 = .ok (.iload_n 3, 1) := by decide +kernel
theorem dX6_layOut_92 : decode cX6_layOut 92 = .ok (.isub, 1) := by decide +kernel
theorem dX6_layOut_93 : decode cX6_layOut 93 = .ok (.invokestatic 58, 3) := by decide +kernel
theorem dX6_layOut_96 : decode cX6_layOut 96 = .ok (.invokestatic 58, 3) := by decide +kernel
theorem dX6_layOut_99 : decode cX6_layOut 99 = .ok (.iastore, 1) := by decide +kernel
theorem dX6_layOut_100 : decode cX6_layOut 100 = .ok (.aload_n 0, 1) := by decide +kernel
theorem dX6_layOut_101 : decode cX6_layOut 101 = .ok (.getfield 34, 3) := by decide +kernel
theorem dX6_layOut_104 : decode cX6_layOut 104 = .ok (.aload_n 0, 1) := by decide +kernel
theorem dX6_layOut_105 : decode cX6_layOut 105 = .ok (.getfield 18, 3) := by decide +kernel
theorem dX6_layOut_108 : decode cX6_layOut 108 = .ok (.iconst 5, 1) := by decide +kernel
theorem dX6_layOut_109 : decode cX6_layOut 109 = .ok (.imul, 1) := by decide +kernel
theorem dX6_layOut_110 : decode cX6_layOut 110 = .ok (.aload_n 0, 1) := by decide +kernel
theorem dX6_layOut_111 : decode cX6_layOut 111 = .ok (.getfield 18, 3) := by decide +kernel
theorem dX6_layOut_114 : decode cX6_layOut 114 = .ok (.iastore, 1) := by decide +kernel
theorem dX6_layOut_115 : decode cX6_layOut 115 = .ok (.aload_n 0, 1) := by decide +kernel
theorem dX6_layOut_116 : decode cX6_layOut 116 = .ok (.getfield 34, 3) := by decide +kernel
theorem dX6_layOut_119 : decode cX6_layOut 119 = .ok (.aload_n 0, 1) := by decide +kernel
theorem dX6_layOut_120 : decode cX6_layOut 120 = .ok (.getfield 18, 3) := by decide +kernel
theorem dX6_layOut_123 : decode cX6_layOut 123 = .ok (.iconst 5, 1) := by decide +kernel
theorem dX6_layOut_124 : decode cX6_layOut 124 = .ok (.imul, 1) := by decide +kernel
theorem dX6_layOut_125 : decode cX6_layOut 125 = .ok (.iconst 1, 1) := by decide +kernel
theorem dX6_layOut_126 : decode cX6_layOut 126 = .ok (.iadd, 1) := by decide +kernel
theorem dX6_layOut_127 : decode cX6_layOut 127 = .ok (.aload_n 0, 1) := by decide +kernel
theorem dX6_layOut_128 : decode cX6_layOut 128 = .ok (.iload 4, 2) := by decide +kernel
theorem dX6_layOut_130 : decode cX6_layOut 130 = .ok (.iload_n 3, 1) := by decide +kernel
theorem dX6_layOut_131 : decode cX6_layOut 131 = .ok (.iconst 1, 1) := by decide +kernel
theorem dX6_layOut_132 : decode cX6_layOut 132 = .ok (.isub, 1) := by decide +kernel
theorem dX6_layOut_133 : decode cX6_layOut 133 = .ok (.invokevirtual 64, 3) := by decide +kernel
theorem dX6_layOut_136 : decode cX6_layOut 136 = .ok (.iastore, 1) := by decide +kernel
theorem dX6_layOut_137 : decode cX6_layOut 137 = .ok (.aload_n 0, 1) := by decide +kernel
theorem dX6_layOut_138 : decode cX6_layOut 138 = .ok (.getfield 34, 3) := by decide +kernel
theorem dX6_layOut_141 : decode cX6_layOut 141 = .ok (.aload_n 0, 1) := by decide +kernel
theorem dX6_layOut_142 : decode cX6_layOut 142 = .ok (.getfield 18, 3) := by decide +kernel
theorem dX6_layOut_145 : decode cX6_layOut 145 = .ok (.iconst 5, 1) := by decide +kernel
theorem dX6_layOut_146 : decode cX6_layOut 146 = .ok (.imul, 1) := by decide +kernel
theorem dX6_layOut_147 : decode cX6_layOut 147 = .ok (.iconst 2, 1) := by decide +kernel
theorem dX6_layOut_148 : decode cX6_layOut 148 = .ok (.iadd, 1) := by decide +kernel
theorem dX6_layOut_149 : decode cX6_layOut 149 = .ok (.aload_n 0, 1) := by decide +kernel
theorem dX6_layOut_150 : decode cX6_layOut 150 = .ok (.iload 4, 2) := by decide +kernel
theorem dX6_layOut_152 : decode cX6_layOut 152 = .ok (.iconst 1, 1) := by decide +kernel
theorem dX6_layOut_153 : decode cX6_layOut 153 = .ok (.iadd, 1) := by decide +kernel
theorem dX6_layOut_154 : decode cX6_layOut 154 = .ok (.iload_n 3, 1) := by decide +kernel
theorem dX6_layOut_155 : decode cX6_layOut 155 = .ok (.invokevirtual 64, 3) := by decide +kernel
theorem dX6_layOut_158 : decode cX6_layOut 158 = .ok (.iastore, 1) := by decide +kernel
theorem dX6_layOut_159 : decode cX6_layOut 159 = .ok (.aload_n 0, 1) := by decide +kernel
theorem dX6_layOut_160 : decode cX6_layOut 160 = .ok (.getfield 34, 3) := by decide +kernel
theorem dX6_layOut_163 : decode cX6_layOut 163 = .ok (.aload_n 0, 1) := by decide +kernel
theorem dX6_layOut_164 : decode cX6_layOut 164 = .ok (.getfield 18, 3) := by decide +kernel
theorem dX6_layOut_167 : decode cX6_layOut 167 = .ok (.iconst 5, 1) := by decide +kernel
theorem dX6_layOut_168 : decode cX6_layOut 168 = .ok (.imul, 1) := by decide +kernel
theorem dX6_layOut_169 : decode cX6_layOut 169 = .ok (.iconst 3, 1) := by decide +kernel
theorem dX6_layOut_170 : decode cX6_layOut 170 = .ok (.iadd, 1) := by decide +kernel
theorem dX6_layOut_171 : decode cX6_layOut 171 = .ok (.aload_n 0, 1) := by decide +kernel
theorem dX6_layOut_172 : decode cX6_layOut 172 = .ok (.iload 4, 2) := by decide +kernel
theorem dX6_layOut_174 : decode cX6_layOut 174 = .ok (.iload_n 3, 1) := by decide +kernel
theorem dX6_layOut_175 : decode cX6_layOut 175 = .ok (.iconst 1, 1) := by decide +kernel
theorem dX6_layOut_176 : decode cX6_layOut 176 = .ok (.iadd, 1) := by decide +kernel
theorem dX6_layOut_177 : decode cX6_layOut 177 = .ok (.invokevirtual 64, 3) := by decide +kernel
theorem dX6_layOut_180 : decode cX6_layOut 180 = .ok (.iastore, 1) := by decide +kernel
theorem dX6_layOut_181 : decode cX6_layOut 181 = .ok (.aload_n 0, 1) := by decide +kernel
theorem dX6_layOut_182 : decode cX6_layOut 182 = .ok (.getfield 34, 3) := by decide +kernel
theorem dX6_layOut_185 : decode cX6_layOut 185 = .ok (.aload_n 0, 1) := by decide +kernel
theorem dX6_layOut_186 : decode cX6_layOut 186 = .ok (.getfield 18, 3) := by decide +kernel
theorem dX6_layOut_189 : decode cX6_layOut 189 = .ok (.iconst 5, 1) := by decide +kernel
theorem dX6_layOut_190 : decode cX6_layOut 190 = .ok (.imul, 1) := by decide +kernel
theorem dX6_layOut_191 : decode cX6_layOut 191 = .ok (.iconst 4, 1) := by decide +kernel
theorem dX6_layOut_192 : decode cX6_layOut 192 = .ok (.iadd, 1) := by decide +kernel
theorem dX6_layOut_193 : decode cX6_layOut 193 = .ok (.aload_n 0, 1) := by decide +kernel
theorem dX6_layOut_194 : decode cX6_layOut 194 = .ok (.iload 4, 2) := by decide +kernel
theorem dX6_layOut_196 : decode cX6_layOut 196 = .ok (.iconst 1, 1) := by decide +kernel
theorem dX6_layOut_197 : decode cX6_layOut 197 = .ok (.isub, 1) := by decide +kernel
theorem dX6_layOut_198 : decode cX6_layOut 198 = .ok (.iload_n 3, 1) := by decide +kernel
theorem dX6_layOut_199 : decode cX6_layOut 199 = .ok (.invokevirtual 64, 3) := by decide +kernel
theorem dX6_layOut_202 : decode cX6_layOut 202 = .ok (.iastore, 1) := by decide +kernel
theorem dX6_layOut_203 : decode cX6_layOut 203 = .ok (.aload_n 0, 1) := by decide +kernel
theorem dX6_layOut_204 : decode cX6_layOut 204 = .ok (.dup, 1) := by decide +kernel
theorem dX6_layOut_205 : decode cX6_layOut 205 = .ok (.getfield 18, 3) := by decide +kernel
theorem dX6_layOut_208 : decode cX6_layOut 208 = .ok (.iconst 1, 1) := by decide +kernel
theorem dX6_layOut_209 : decode cX6_layOut 209 = .ok (.iadd, 1) := by decide +kernel
theorem dX6_layOut_210 : decode cX6_layOut 210 = .ok (.putfield 18, 3) := by decide +kernel
theorem dX6_layOut_213 : decode cX6_layOut 213 = .ok (.iinc 4 1, 3) := by decide +kernel
theorem dX6_layOut_216 : decode cX6_layOut 216 = .ok (.goto (-193), 3) := by decide +kernel
theorem dX6_layOut_219 : decode cX6_layOut 219 = .ok (.iinc 3 1, 3) := by decide +kernel
theorem dX6_layOut_222 : decode cX6_layOut 222 = .ok (.goto (-210), 3) := by decide +kernel
theorem dX6_layOut_225 : decode cX6_layOut 225 = .ok (.return_, 1) := by decide +kernel
theorem dX6_seatAt_0 : decode cX6_seatAt 0 = .ok (.iload_n 1, 1) := by decide +kernel
theorem dX6_seatAt_1 : decode cX6_seatAt 1 = .ok (.ifCond .lt 23, 3) := by decide +kernel
theorem dX6_seatAt_4 : decode cX6_seatAt 4 = .ok (.iload_n 1, 1) := by decide +kernel
theorem dX6_seatAt_5 : decode cX6_seatAt 5 = .ok (.aload_n 0, 1) := by decide +kernel
theorem dX6_seatAt_6 : decode cX6_seatAt 6 = .ok (.getfield 9, 3) := by decide +kernel
theorem dX6_seatAt_9 : decode cX6_seatAt 9 = .ok (.if_icmp .ge 15, 3) := by decide +kernel
theorem dX6_seatAt_12 : decode cX6_seatAt 12 = .ok (.iload_n 2, 1) := by decide +kernel
theorem dX6_seatAt_13 : decode cX6_seatAt 13 = .ok (.ifCond .lt 11, 3) := by decide +kernel
theorem dX6_seatAt_16 : decode cX6_seatAt 16 = .ok (.iload_n 2, 1) := by decide +kernel
theorem dX6_seatAt_17 : decode cX6_seatAt 17 = .ok (.aload_n 0, 1) := by decide +kernel
theorem dX6_seatAt_18 : decode cX6_seatAt 18 = .ok (.getfield 15, 3) := by decide +kernel
theorem dX6_seatAt_21 : decode cX6_seatAt 21 = .ok (.if_icmp .lt 7, 3) := by decide +kernel
theorem dX6_seatAt_24 : decode cX6_seatAt 24 = .ok (.iconst (-1), 1) := by decide +kernel
theorem dX6_seatAt_25 : decode cX6_seatAt 25 = .ok (.goto 11, 3) := by decide +kernel
theorem dX6_seatAt_28 : decode cX6_seatAt 28 = .ok (.iload_n 2, 1) := by decide +kernel
theorem dX6_seatAt_29 : decode cX6_seatAt 29 = .ok (.aload_n 0, 1) := by decide +kernel
theorem dX6_seatAt_30 : decode cX6_seatAt 30 = .ok (.getfield 9, 3) := by decide +kernel
theorem dX6_seatAt_33 : decode cX6_seatAt 33 = .ok (.imul, 1) := by decide +kernel
theorem dX6_seatAt_34 : decode cX6_seatAt 34 = .ok (.iload_n 1, 1) := by decide +kernel
theorem dX6_seatAt_35 : decode cX6_seatAt 35 = .ok (.iadd, 1) := by decide +kernel
theorem dX6_seatAt_36 : decode cX6_seatAt 36 = .ok (.ireturn, 1) := by decide +kernel
theorem dX6_columnOf_0 : decode cX6_columnOf 0 = .ok (.iload_n 1, 1) := by decide +kernel
theorem dX6_columnOf_1 : decode cX6_columnOf 1 = .ok (.ifCond .lt 11, 3) := by decide +kernel
theorem dX6_columnOf_4 : decode cX6_columnOf 4 = .ok (.iload_n 1, 1) := by decide +kernel
theorem dX6_columnOf_5 : decode cX6_columnOf 5 = .ok (.aload_n 0, 1) := by decide +kernel
theorem dX6_columnOf_6 : decode cX6_columnOf 6 = .ok (.getfield 18, 3) := by decide +kernel
theorem dX6_columnOf_9 : decode cX6_columnOf 9 = .ok (.if_icmp .lt 7, 3) := by decide +kernel
theorem dX6_columnOf_12 : decode cX6_columnOf 12 = .ok (.iconst (-1), 1) := by decide +kernel
theorem dX6_columnOf_13 : decode cX6_columnOf 13 = .ok (.goto 9, 3) := by decide +kernel
theorem dX6_columnOf_16 : decode cX6_columnOf 16 = .ok (.aload_n 0, 1) := by decide +kernel
theorem dX6_columnOf_17 : decode cX6_columnOf 17 = .ok (.getfield 24, 3) := by decide +kernel
theorem dX6_columnOf_20 : decode cX6_columnOf 20 = .ok (.iload_n 1, 1) := by decide +kernel
theorem dX6_columnOf_21 : decode cX6_columnOf 21 = .ok (.iaload, 1) := by decide +kernel
theorem dX6_columnOf_22 : decode cX6_columnOf 22 = .ok (.ireturn, 1) := by decide +kernel
theorem dX6_rowOf_0 : decode cX6_rowOf 0 = .ok (.iload_n 1, 1) := by decide +kernel
theorem dX6_rowOf_1 : decode cX6_rowOf 1 = .ok (.ifCond .lt 11, 3) := by decide +kernel
theorem dX6_rowOf_4 : decode cX6_rowOf 4 = .ok (.iload_n 1, 1) := by decide +kernel
theorem dX6_rowOf_5 : decode cX6_rowOf 5 = .ok (.aload_n 0, 1) := by decide +kernel
theorem dX6_rowOf_6 : decode cX6_rowOf 6 = .ok (.getfield 18, 3) := by decide +kernel
theorem dX6_rowOf_9 : decode cX6_rowOf 9 = .ok (.if_icmp .lt 7, 3) := by decide +kernel
theorem dX6_rowOf_12 : decode cX6_rowOf 12 = .ok (.iconst (-1), 1) := by decide +kernel
theorem dX6_rowOf_13 : decode cX6_rowOf 13 = .ok (.goto 9, 3) := by decide +kernel
theorem dX6_rowOf_16 : decode cX6_rowOf 16 = .ok (.aload_n 0, 1) := by decide +kernel
theorem dX6_rowOf_17 : decode cX6_rowOf 17 = .ok (.getfield 28, 3) := by decide +kernel
theorem dX6_rowOf_20 : decode cX6_rowOf 20 = .ok (.iload_n 1, 1) := by decide +kernel
theorem dX6_rowOf_21 : decode cX6_rowOf 21 = .ok (.iaload, 1) := by decide +kernel
theorem dX6_rowOf_22 : decode cX6_rowOf 22 = .ok (.ireturn, 1) := by decide +kernel
theorem dX6_steps_0 : decode cX6_steps 0 = .ok (.aload_n 0, 1) := by decide +kernel
theorem dX6_steps_1 : decode cX6_steps 1 = .ok (.iload_n 1, 1) := by decide +kernel
theorem dX6_steps_2 : decode cX6_steps 2 = .ok (.invokevirtual 67, 3) := by decide +kernel
theorem dX6_steps_5 : decode cX6_steps 5 = .ok (.aload_n 0, 1) := by decide +kernel
theorem dX6_steps_6 : decode cX6_steps 6 = .ok (.iload_n 2, 1) := by decide +kernel
theorem dX6_steps_7 : decode cX6_steps 7 = .ok (.invokevirtual 67, 3) := by decide +kernel
theorem dX6_steps_10 : decode cX6_steps 10 = .ok (.isub, 1) := by decide +kernel
theorem dX6_steps_11 : decode cX6_steps 11 = .ok (.invokestatic 71, 3) := by decide +kernel
theorem dX6_steps_14 : decode cX6_steps 14 = .ok (.aload_n 0, 1) := by decide +kernel
theorem dX6_steps_15 : decode cX6_steps 15 = .ok (.iload_n 1, 1) := by decide +kernel
theorem dX6_steps_16 : decode cX6_steps 16 = .ok (.invokevirtual 74, 3) := by decide +kernel
theorem dX6_steps_19 : decode cX6_steps 19 = .ok (.aload_n 0, 1) := by decide +kernel
theorem dX6_steps_20 : decode cX6_steps 20 = .ok (.iload_n 2, 1) := by decide +kernel
theorem dX6_steps_21 : decode cX6_steps 21 = .ok (.invokevirtual 74, 3) := by decide +kernel
theorem dX6_steps_24 : decode cX6_steps 24 = .ok (.isub, 1) := by decide +kernel
theorem dX6_steps_25 : decode cX6_steps 25 = .ok (.invokestatic 71, 3) := by decide +kernel
theorem dX6_steps_28 : decode cX6_steps 28 = .ok (.iadd, 1) := by decide +kernel
theorem dX6_steps_29 : decode cX6_steps 29 = .ok (.ireturn, 1) := by decide +kernel
theorem dX6_isWithinTwo_0 : decode cX6_isWithinTwo 0 = .ok (.aload_n 0, 1) := by decide +kernel
theorem dX6_isWithinTwo_1 : decode cX6_isWithinTwo 1 = .ok (.iload_n 1, 1) := by decide +kernel
theorem dX6_isWithinTwo_2 : decode cX6_isWithinTwo 2 = .ok (.invokevirtual 67, 3) := by decide +kernel
theorem dX6_isWithinTwo_5 : decode cX6_isWithinTwo 5 = .ok (.aload_n 0, 1) := by decide +kernel
theorem dX6_isWithinTwo_6 : decode cX6_isWithinTwo 6 = .ok (.iload_n 2, 1) := by decide +kernel
theorem dX6_isWithinTwo_7 : decode cX6_isWithinTwo 7 = .ok (.invokevirtual 67, 3) := by decide +kernel
theorem dX6_isWithinTwo_10 : decode cX6_isWithinTwo 10 = .ok (.isub, 1) := by decide +kernel
theorem dX6_isWithinTwo_11 : decode cX6_isWithinTwo 11 = .ok (.invokestatic 71, 3) := by decide +kernel
theorem dX6_isWithinTwo_14 : decode cX6_isWithinTwo 14 = .ok (.iconst 2, 1) := by decide +kernel
theorem dX6_isWithinTwo_15 : decode cX6_isWithinTwo 15 = .ok (.if_icmp .gt 25, 3) := by decide +kernel
theorem dX6_isWithinTwo_18 : decode cX6_isWithinTwo 18 = .ok (.aload_n 0, 1) := by decide +kernel
theorem dX6_isWithinTwo_19 : decode cX6_isWithinTwo 19 = .ok (.iload_n 1, 1) := by decide +kernel
theorem dX6_isWithinTwo_20 : decode cX6_isWithinTwo 20 = .ok (.invokevirtual 74, 3) := by decide +kernel
theorem dX6_isWithinTwo_23 : decode cX6_isWithinTwo 23 = .ok (.aload_n 0, 1) := by decide +kernel
theorem dX6_isWithinTwo_24 : decode cX6_isWithinTwo 24 = .ok (.iload_n 2, 1) := by decide +kernel
theorem dX6_isWithinTwo_25 : decode cX6_isWithinTwo 25 = .ok (.invokevirtual 74, 3) := by decide +kernel
theorem dX6_isWithinTwo_28 : decode cX6_isWithinTwo 28 = .ok (.isub, 1) := by decide +kernel
theorem dX6_isWithinTwo_29 : decode cX6_isWithinTwo 29 = .ok (.invokestatic 71, 3) := by decide +kernel
theorem dX6_isWithinTwo_32 : decode cX6_isWithinTwo 32 = .ok (.iconst 2, 1) := by decide +kernel
theorem dX6_isWithinTwo_33 : decode cX6_isWithinTwo 33 = .ok (.if_icmp .gt 7, 3) := by decide +kernel
theorem dX6_isWithinTwo_36 : decode cX6_isWithinTwo 36 = .ok (.iconst 1, 1) := by decide +kernel
theorem dX6_isWithinTwo_37 : decode cX6_isWithinTwo 37 = .ok (.goto 4, 3) := by decide +kernel
theorem dX6_isWithinTwo_40 : decode cX6_isWithinTwo 40 = .ok (.iconst 0, 1) := by decide +kernel
theorem dX6_isWithinTwo_41 : decode cX6_isWithinTwo 41 = .ok (.ireturn, 1) := by decide +kernel
theorem dX6_addFan_0 : decode cX6_addFan 0 = .ok (.aload_n 0, 1) := by decide +kernel
theorem dX6_addFan_1 : decode cX6_addFan 1 = .ok (.getfield 37, 3) := by decide +kernel
theorem dX6_addFan_4 : decode cX6_addFan 4 = .ok (.aload_n 0, 1) := by decide +kernel
theorem dX6_addFan_5 : decode cX6_addFan 5 = .ok (.getfield 40, 3) := by decide +kernel
theorem dX6_addFan_8 : decode cX6_addFan 8 = .ok (.arraylength, 1) := by decide +kernel
theorem dX6_addFan_9 : decode cX6_addFan 9 = .ok (.if_icmp .ge 43, 3) := by decide +kernel
theorem dX6_addFan_12 : decode cX6_addFan 12 = .ok (.aload_n 0, 1) := by decide +kernel
theorem dX6_addFan_13 : decode cX6_addFan 13 = .ok (.getfield 40, 3) := by decide +kernel
theorem dX6_addFan_16 : decode cX6_addFan 16 = .ok (.aload_n 0, 1) := by decide +kernel
theorem dX6_addFan_17 : decode cX6_addFan 17 = .ok (.getfield 37, 3) := by decide +kernel
theorem dX6_addFan_20 : decode cX6_addFan 20 = .ok (.iload_n 1, 1) := by decide +kernel
theorem dX6_addFan_21 : decode cX6_addFan 21 = .ok (.iastore, 1) := by decide +kernel
theorem dX6_addFan_22 : decode cX6_addFan 22 = .ok (.aload_n 0, 1) := by decide +kernel
theorem dX6_addFan_23 : decode cX6_addFan 23 = .ok (.getfield 43, 3) := by decide +kernel
theorem dX6_addFan_26 : decode cX6_addFan 26 = .ok (.aload_n 0, 1) := by decide +kernel
theorem dX6_addFan_27 : decode cX6_addFan 27 = .ok (.getfield 37, 3) := by decide +kernel
theorem dX6_addFan_30 : decode cX6_addFan 30 = .ok (.iload_n 2, 1) := by decide +kernel
theorem dX6_addFan_31 : decode cX6_addFan 31 = .ok (.iastore, 1) := by decide +kernel
theorem dX6_addFan_32 : decode cX6_addFan 32 = .ok (.aload_n 0, 1) := by decide +kernel
theorem dX6_addFan_33 : decode cX6_addFan 33 = .ok (.getfield 46, 3) := by decide +kernel
theorem dX6_addFan_36 : decode cX6_addFan 36 = .ok (.aload_n 0, 1) := by decide +kernel
theorem dX6_addFan_37 : decode cX6_addFan 37 = .ok (.getfield 37, 3) := by decide +kernel
theorem dX6_addFan_40 : decode cX6_addFan 40 = .ok (.iload_n 3, 1) := by decide +kernel
theorem dX6_addFan_41 : decode cX6_addFan 41 = .ok (.iastore, 1) := by decide +kernel
theorem dX6_addFan_42 : decode cX6_addFan 42 = .ok (.aload_n 0, 1) := by decide +kernel
theorem dX6_addFan_43 : decode cX6_addFan 43 = .ok (.dup, 1) := by decide +kernel
theorem dX6_addFan_44 : decode cX6_addFan 44 = .ok (.getfield 37, 3) := by decide +kernel
theorem dX6_addFan_47 : decode cX6_addFan 47 = .ok (.iconst 1, 1) := by decide +kernel
theorem dX6_addFan_48 : decode cX6_addFan 48 = .ok (.iadd, 1) := by decide +kernel
theorem dX6_addFan_49 : decode cX6_addFan 49 = .ok (.putfield 37, 3) := by decide +kernel
theorem dX6_addFan_52 : decode cX6_addFan 52 = .ok (.return_, 1) := by decide +kernel
theorem dX6_addSnow_0 : decode cX6_addSnow 0 = .ok (.aload_n 0, 1) := by decide +kernel
theorem dX6_addSnow_1 : decode cX6_addSnow 1 = .ok (.getfield 49, 3) := by decide +kernel
theorem dX6_addSnow_4 : decode cX6_addSnow 4 = .ok (.bipush 8, 2) := by decide +kernel
theorem dX6_addSnow_6 : decode cX6_addSnow 6 = .ok (.if_icmp .ge 33, 3) := by decide +kernel
theorem dX6_addSnow_9 : decode cX6_addSnow 9 = .ok (.aload_n 0, 1) := by decide +kernel
theorem dX6_addSnow_10 : decode cX6_addSnow 10 = .ok (.getfield 52, 3) := by decide +kernel
theorem dX6_addSnow_13 : decode cX6_addSnow 13 = .ok (.aload_n 0, 1) := by decide +kernel
theorem dX6_addSnow_14 : decode cX6_addSnow 14 = .ok (.getfield 49, 3) := by decide +kernel
theorem dX6_addSnow_17 : decode cX6_addSnow 17 = .ok (.iload_n 1, 1) := by decide +kernel
theorem dX6_addSnow_18 : decode cX6_addSnow 18 = .ok (.iastore, 1) := by decide +kernel
theorem dX6_addSnow_19 : decode cX6_addSnow 19 = .ok (.aload_n 0, 1) := by decide +kernel
theorem dX6_addSnow_20 : decode cX6_addSnow 20 = .ok (.getfield 55, 3) := by decide +kernel
theorem dX6_addSnow_23 : decode cX6_addSnow 23 = .ok (.aload_n 0, 1) := by decide +kernel
theorem dX6_addSnow_24 : decode cX6_addSnow 24 = .ok (.getfield 49, 3) := by decide +kernel
theorem dX6_addSnow_27 : decode cX6_addSnow 27 = .ok (.iload_n 2, 1) := by decide +kernel
theorem dX6_addSnow_28 : decode cX6_addSnow 28 = .ok (.iastore, 1) := by decide +kernel
theorem dX6_addSnow_29 : decode cX6_addSnow 29 = .ok (.aload_n 0, 1) := by decide +kernel
theorem dX6_addSnow_30 : decode cX6_addSnow 30 = .ok (.dup, 1) := by decide +kernel
theorem dX6_addSnow_31 : decode cX6_addSnow 31 = .ok (.getfield 49, 3) := by decide +kernel
theorem dX6_addSnow_34 : decode cX6_addSnow 34 = .ok (.iconst 1, 1) := by decide +kernel
theorem dX6_addSnow_35 : decode cX6_addSnow 35 = .ok (.iadd, 1) := by decide +kernel
theorem dX6_addSnow_36 : decode cX6_addSnow 36 = .ok (.putfield 49, 3) := by decide +kernel
theorem dX6_addSnow_39 : decode cX6_addSnow 39 = .ok (.return_, 1) := by decide +kernel
theorem dX6_copy_0 : decode cX6_copy 0 = .ok (.aload_n 0, 1) := by decide +kernel
theorem dX6_copy_1 : decode cX6_copy 1 = .ok (.aload_n 1, 1) := by decide +kernel
theorem dX6_copy_2 : decode cX6_copy 2 = .ok (.getfield 9, 3) := by decide +kernel
theorem dX6_copy_5 : decode cX6_copy 5 = .ok (.putfield 9, 3) := by decide +kernel
theorem dX6_copy_8 : decode cX6_copy 8 = .ok (.aload_n 0, 1) := by decide +kernel
theorem dX6_copy_9 : decode cX6_copy 9 = .ok (.aload_n 1, 1) := by decide +kernel
theorem dX6_copy_10 : decode cX6_copy 10 = .ok (.getfield 15, 3) := by decide +kernel
theorem dX6_copy_13 : decode cX6_copy 13 = .ok (.putfield 15, 3) := by decide +kernel
theorem dX6_copy_16 : decode cX6_copy 16 = .ok (.aload_n 0, 1) := by decide +kernel
theorem dX6_copy_17 : decode cX6_copy 17 = .ok (.aload_n 1, 1) := by decide +kernel
theorem dX6_copy_18 : decode cX6_copy 18 = .ok (.getfield 18, 3) := by decide +kernel
theorem dX6_copy_21 : decode cX6_copy 21 = .ok (.putfield 18, 3) := by decide +kernel
theorem dX6_copy_24 : decode cX6_copy 24 = .ok (.aload_n 0, 1) := by decide +kernel
theorem dX6_copy_25 : decode cX6_copy 25 = .ok (.aload_n 1, 1) := by decide +kernel
theorem dX6_copy_26 : decode cX6_copy 26 = .ok (.getfield 21, 3) := by decide +kernel
theorem dX6_copy_29 : decode cX6_copy 29 = .ok (.putfield 21, 3) := by decide +kernel
theorem dX6_copy_32 : decode cX6_copy 32 = .ok (.aload_n 1, 1) := by decide +kernel
theorem dX6_copy_33 : decode cX6_copy 33 = .ok (.getfield 24, 3) := by decide +kernel
theorem dX6_copy_36 : decode cX6_copy 36 = .ok (.iconst 0, 1) := by decide +kernel
theorem dX6_copy_37 : decode cX6_copy 37 = .ok (.aload_n 0, 1) := by decide +kernel
theorem dX6_copy_38 : decode cX6_copy 38 = .ok (.getfield 24, 3) := by decide +kernel
theorem dX6_copy_41 : decode cX6_copy 41 = .ok (.iconst 0, 1) := by decide +kernel
theorem dX6_copy_42 : decode cX6_copy 42 = .ok (.bipush 80, 2) := by decide +kernel
theorem dX6_copy_44 : decode cX6_copy 44 = .ok (.invokestatic 77, 3) := by decide +kernel
theorem dX6_copy_47 : decode cX6_copy 47 = .ok (.aload_n 1, 1) := by decide +kernel
theorem dX6_copy_48 : decode cX6_copy 48 = .ok (.getfield 28, 3) := by decide +kernel
theorem dX6_copy_51 : decode cX6_copy 51 = .ok (.iconst 0, 1) := by decide +kernel
theorem dX6_copy_52 : decode cX6_copy 52 = .ok (.aload_n 0, 1) := by decide +kernel
theorem dX6_copy_53 : decode cX6_copy 53 = .ok (.getfield 28, 3) := by decide +kernel
theorem dX6_copy_56 : decode cX6_copy 56 = .ok (.iconst 0, 1) := by decide +kernel
theorem dX6_copy_57 : decode cX6_copy 57 = .ok (.bipush 80, 2) := by decide +kernel
theorem dX6_copy_59 : decode cX6_copy 59 = .ok (.invokestatic 77, 3) := by decide +kernel
theorem dX6_copy_62 : decode cX6_copy 62 = .ok (.aload_n 1, 1) := by decide +kernel
theorem dX6_copy_63 : decode cX6_copy 63 = .ok (.getfield 31, 3) := by decide +kernel
theorem dX6_copy_66 : decode cX6_copy 66 = .ok (.iconst 0, 1) := by decide +kernel
theorem dX6_copy_67 : decode cX6_copy 67 = .ok (.aload_n 0, 1) := by decide +kernel
theorem dX6_copy_68 : decode cX6_copy 68 = .ok (.getfield 31, 3) := by decide +kernel
theorem dX6_copy_71 : decode cX6_copy 71 = .ok (.iconst 0, 1) := by decide +kernel
theorem dX6_copy_72 : decode cX6_copy 72 = .ok (.bipush 80, 2) := by decide +kernel
theorem dX6_copy_74 : decode cX6_copy 74 = .ok (.invokestatic 77, 3) := by decide +kernel
theorem dX6_copy_77 : decode cX6_copy 77 = .ok (.aload_n 1, 1) := by decide +kernel
theorem dX6_copy_78 : decode cX6_copy 78 = .ok (.getfield 34, 3) := by decide +kernel
theorem dX6_copy_81 : decode cX6_copy 81 = .ok (.iconst 0, 1) := by decide +kernel
theorem dX6_copy_82 : decode cX6_copy 82 = .ok (.aload_n 0, 1) := by decide +kernel
theorem dX6_copy_83 : decode cX6_copy 83 = .ok (.getfield 34, 3) := by decide +kernel
theorem dX6_copy_86 : decode cX6_copy 86 = .ok (.iconst 0, 1) := by decide +kernel
theorem dX6_copy_87 : decode cX6_copy 87 = .ok (.sipush 400, 3) := by decide +kernel
theorem dX6_copy_90 : decode cX6_copy 90 = .ok (.invokestatic 77, 3) := by decide +kernel
theorem dX6_copy_93 : decode cX6_copy 93 = .ok (.aload_n 0, 1) := by decide +kernel
theorem dX6_copy_94 : decode cX6_copy 94 = .ok (.aload_n 1, 1) := by decide +kernel
theorem dX6_copy_95 : decode cX6_copy 95 = .ok (.getfield 37, 3) := by decide +kernel
theorem dX6_copy_98 : decode cX6_copy 98 = .ok (.putfield 37, 3) := by decide +kernel
theorem dX6_copy_101 : decode cX6_copy 101 = .ok (.aload_n 1, 1) := by decide +kernel
theorem dX6_copy_102 : decode cX6_copy 102 = .ok (.getfield 40, 3) := by decide +kernel
theorem dX6_copy_105 : decode cX6_copy 105 = .ok (.iconst 0, 1) := by decide +kernel
theorem dX6_copy_106 : decode cX6_copy 106 = .ok (.aload_n 0, 1) := by decide +kernel
theorem dX6_copy_107 : decode cX6_copy 107 = .ok (.getfield 40, 3) := by decide +kernel
theorem dX6_copy_110 : decode cX6_copy 110 = .ok (.iconst 0, 1) := by decide +kernel
theorem dX6_copy_111 : decode cX6_copy 111 = .ok (.bipush 7, 2) := by decide +kernel
theorem dX6_copy_113 : decode cX6_copy 113 = .ok (.invokestatic 77, 3) := by decide +kernel
theorem dX6_copy_116 : decode cX6_copy 116 = .ok (.aload_n 1, 1) := by decide +kernel
theorem dX6_copy_117 : decode cX6_copy 117 = .ok (.getfield 43, 3) := by decide +kernel
theorem dX6_copy_120 : decode cX6_copy 120 = .ok (.iconst 0, 1) := by decide +kernel
theorem dX6_copy_121 : decode cX6_copy 121 = .ok (.aload_n 0, 1) := by decide +kernel
theorem dX6_copy_122 : decode cX6_copy 122 = .ok (.getfield 43, 3) := by decide +kernel
theorem dX6_copy_125 : decode cX6_copy 125 = .ok (.iconst 0, 1) := by decide +kernel
theorem dX6_copy_126 : decode cX6_copy 126 = .ok (.bipush 7, 2) := by decide +kernel
theorem dX6_copy_128 : decode cX6_copy 128 = .ok (.invokestatic 77, 3) := by decide +kernel
theorem dX6_copy_131 : decode cX6_copy 131 = .ok (.aload_n 1, 1) := by decide +kernel
theorem dX6_copy_132 : decode cX6_copy 132 = .ok (.getfield 46, 3) := by decide +kernel
theorem dX6_copy_135 : decode cX6_copy 135 = .ok (.iconst 0, 1) := by decide +kernel
theorem dX6_copy_136 : decode cX6_copy 136 = .ok (.aload_n 0, 1) := by decide +kernel
theorem dX6_copy_137 : decode cX6_copy 137 = .ok (.getfield 46, 3) := by decide +kernel
theorem dX6_copy_140 : decode cX6_copy 140 = .ok (.iconst 0, 1) := by decide +kernel
theorem dX6_copy_141 : decode cX6_copy 141 = .ok (.bipush 7, 2) := by decide +kernel
