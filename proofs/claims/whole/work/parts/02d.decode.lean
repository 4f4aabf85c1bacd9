theorem dX9_critic_53 : decode cX9_critic 53 = .ok (.iconst 2, 1) := by decide +kernel
theorem dX9_critic_54 : decode cX9_critic 54 = .ok (.iaload, 1) := by decide +kernel
theorem dX9_critic_55 : decode cX9_critic 55 = .ok (.if_icmp .ge 35, 3) := by decide +kernel
theorem dX9_critic_58 : decode cX9_critic 58 = .ok (.aload_n 0, 1) := by decide +kernel
theorem dX9_critic_59 : decode cX9_critic 59 = .ok (.getfield 127, 3) := by decide +kernel
theorem dX9_critic_62 : decode cX9_critic 62 = .ok (.iload 5, 2) := by decide +kernel
theorem dX9_critic_64 : decode cX9_critic 64 = .ok (.iaload, 1) := by decide +kernel
theorem dX9_critic_65 : decode cX9_critic 65 = .ok (.aload_n 0, 1) := by decide +kernel
theorem dX9_critic_66 : decode cX9_critic 66 = .ok (.getfield 127, 3) := by decide +kernel
theorem dX9_critic_69 : decode cX9_critic 69 = .ok (.iload 4, 2) := by decide +kernel
theorem dX9_critic_71 : decode cX9_critic 71 = .ok (.iaload, 1) := by decide +kernel
theorem dX9_critic_72 : decode cX9_critic 72 = .ok (.if_icmp .le 8, 3) := by decide +kernel
theorem dX9_critic_75 : decode cX9_critic 75 = .ok (.iload 5, 2) := by decide +kernel
theorem dX9_critic_77 : decode cX9_critic 77 = .ok (.goto 5, 3) := by decide +kernel
theorem dX9_critic_80 : decode cX9_critic 80 = .ok (.iload 4, 2) := by decide +kernel
theorem dX9_critic_82 : decode cX9_critic 82 = .ok (.istore 4, 2) := by decide +kernel
theorem dX9_critic_84 : decode cX9_critic 84 = .ok (.iinc 5 1, 3) := by decide +kernel
theorem dX9_critic_87 : decode cX9_critic 87 = .ok (.goto (-40), 3) := by decide +kernel
theorem dX9_critic_90 : decode cX9_critic 90 = .ok (.iload_n 3, 1) := by decide +kernel
theorem dX9_critic_91 : decode cX9_critic 91 = .ok (.ifCond .ne 8, 3) := by decide +kernel
theorem dX9_critic_94 : decode cX9_critic 94 = .ok (.iload 4, 2) := by decide +kernel
theorem dX9_critic_96 : decode cX9_critic 96 = .ok (.goto 10, 3) := by decide +kernel
theorem dX9_critic_99 : decode cX9_critic 99 = .ok (.aload_n 0, 1) := by decide +kernel
theorem dX9_critic_100 : decode cX9_critic 100 = .ok (.getfield 127, 3) := by decide +kernel
theorem dX9_critic_103 : decode cX9_critic 103 = .ok (.iload 4, 2) := by decide +kernel
theorem dX9_critic_105 : decode cX9_critic 105 = .ok (.iaload, 1) := by decide +kernel
theorem dX9_critic_106 : decode cX9_critic 106 = .ok (.ireturn, 1) := by decide +kernel
theorem dX9_findsSeat_0 : decode cX9_findsSeat 0 = .ok (.iconst 0, 1) := by decide +kernel
theorem dX9_findsSeat_1 : decode cX9_findsSeat 1 = .ok (.istore 4, 2) := by decide +kernel
theorem dX9_findsSeat_3 : decode cX9_findsSeat 3 = .ok (.iload 4, 2) := by decide +kernel
theorem dX9_findsSeat_5 : decode cX9_findsSeat 5 = .ok (.aload_n 0, 1) := by decide +kernel
theorem dX9_findsSeat_6 : decode cX9_findsSeat 6 = .ok (.getfield 7, 3) := by decide +kernel
theorem dX9_findsSeat_9 : decode cX9_findsSeat 9 = .ok (.iconst 2, 1) := by decide +kernel
theorem dX9_findsSeat_10 : decode cX9_findsSeat 10 = .ok (.iaload, 1) := by decide +kernel
theorem dX9_findsSeat_11 : decode cX9_findsSeat 11 = .ok (.if_icmp .ge 118, 3) := by decide +kernel
theorem dX9_findsSeat_14 : decode cX9_findsSeat 14 = .ok (.aload_n 0, 1) := by decide +kernel
theorem dX9_findsSeat_15 : decode cX9_findsSeat 15 = .ok (.getfield 16, 3) := by decide +kernel
theorem dX9_findsSeat_18 : decode cX9_findsSeat 18 = .ok (.iload 4, 2) := by decide +kernel
theorem dX9_findsSeat_20 : decode cX9_findsSeat 20 = .ok (.iaload, 1) := by decide +kernel
theorem dX9_findsSeat_21 : decode cX9_findsSeat 21 = .ok (.istore 5, 2) := by decide +kernel
theorem dX9_findsSeat_23 : decode cX9_findsSeat 23 = .ok (.iconst 0, 1) := by decide +kernel
theorem dX9_findsSeat_24 : decode cX9_findsSeat 24 = .ok (.istore 6, 2) := by decide +kernel
theorem dX9_findsSeat_26 : decode cX9_findsSeat 26 = .ok (.iload 6, 2) := by decide +kernel
theorem dX9_findsSeat_28 : decode cX9_findsSeat 28 = .ok (.bipush 80, 2) := by decide +kernel
theorem dX9_findsSeat_30 : decode cX9_findsSeat 30 = .ok (.if_icmp .ge 93, 3) := by decide +kernel
theorem dX9_findsSeat_33 : decode cX9_findsSeat 33 = .ok (.iload 5, 2) := by decide +kernel
theorem dX9_findsSeat_35 : decode cX9_findsSeat 35 = .ok (.iconst (-1), 1) := by decide +kernel
theorem dX9_findsSeat_36 : decode cX9_findsSeat 36 = .ok (.if_icmp .eq 87, 3) := by decide +kernel
theorem dX9_findsSeat_39 : decode cX9_findsSeat 39 = .ok (.aload_n 0, 1) := by decide +kernel
theorem dX9_findsSeat_40 : decode cX9_findsSeat 40 = .ok (.iload 6, 2) := by decide +kernel
theorem dX9_findsSeat_42 : decode cX9_findsSeat 42 = .ok (.invokevirtual 370, 3) := by decide +kernel
theorem dX9_findsSeat_45 : decode cX9_findsSeat 45 = .ok (.ifCond .eq 72, 3) := by decide +kernel
theorem dX9_findsSeat_48 : decode cX9_findsSeat 48 = .ok (.aload_n 0, 1) := by decide +kernel
theorem dX9_findsSeat_49 : decode cX9_findsSeat 49 = .ok (.iload 6, 2) := by decide +kernel
theorem dX9_findsSeat_51 : decode cX9_findsSeat 51 = .ok (.invokevirtual 354, 3) := by decide +kernel
theorem dX9_findsSeat_54 : decode cX9_findsSeat 54 = .ok (.iconst (-1), 1) := by decide +kernel
theorem dX9_findsSeat_55 : decode cX9_findsSeat 55 = .ok (.if_icmp .ne 62, 3) := by decide +kernel
theorem dX9_findsSeat_58 : decode cX9_findsSeat 58 = .ok (.aload_n 0, 1) := by decide +kernel
theorem dX9_findsSeat_59 : decode cX9_findsSeat 59 = .ok (.getfield 16, 3) := by decide +kernel
theorem dX9_findsSeat_62 : decode cX9_findsSeat 62 = .ok (.iload 4, 2) := by decide +kernel
theorem dX9_findsSeat_64 : decode cX9_findsSeat 64 = .ok (.iload 6, 2) := by decide +kernel
theorem dX9_findsSeat_66 : decode cX9_findsSeat 66 = .ok (.iastore, 1) := by decide +kernel
theorem dX9_findsSeat_67 : decode cX9_findsSeat 67 = .ok (.aload_n 0, 1) := by decide +kernel
theorem dX9_findsSeat_68 : decode cX9_findsSeat 68 = .ok (.iload_n 1, 1) := by decide +kernel
theorem dX9_findsSeat_69 : decode cX9_findsSeat 69 = .ok (.iload_n 2, 1) := by decide +kernel
theorem dX9_findsSeat_70 : decode cX9_findsSeat 70 = .ok (.invokevirtual 417, 3) := by decide +kernel
theorem dX9_findsSeat_73 : decode cX9_findsSeat 73 = .ok (.aload_n 0, 1) := by decide +kernel
theorem dX9_findsSeat_74 : decode cX9_findsSeat 74 = .ok (.getfield 16, 3) := by decide +kernel
theorem dX9_findsSeat_77 : decode cX9_findsSeat 77 = .ok (.iload_n 3, 1) := by decide +kernel
theorem dX9_findsSeat_78 : decode cX9_findsSeat 78 = .ok (.iaload, 1) := by decide +kernel
theorem dX9_findsSeat_79 : decode cX9_findsSeat 79 = .ok (.if_icmp .ne 7, 3) := by decide +kernel
theorem dX9_findsSeat_82 : decode cX9_findsSeat 82 = .ok (.iconst 1, 1) := by decide +kernel
theorem dX9_findsSeat_83 : decode cX9_findsSeat 83 = .ok (.goto 4, 3) := by decide +kernel
theorem dX9_findsSeat_86 : decode cX9_findsSeat 86 = .ok (.iconst 0, 1) := by decide +kernel
theorem dX9_findsSeat_87 : decode cX9_findsSeat 87 = .ok (.istore 7, 2) := by decide +kernel
theorem dX9_findsSeat_89 : decode cX9_findsSeat 89 = .ok (.aload_n 0, 1) := by decide +kernel
theorem dX9_findsSeat_90 : decode cX9_findsSeat 90 = .ok (.getfield 16, 3) := by decide +kernel
theorem dX9_findsSeat_93 : decode cX9_findsSeat 93 = .ok (.iload 4, 2) := by decide +kernel
theorem dX9_findsSeat_95 : decode cX9_findsSeat 95 = .ok (.iload 5, 2) := by decide +kernel
theorem dX9_findsSeat_97 : decode cX9_findsSeat 97 = .ok (.iastore, 1) := by decide +kernel
theorem dX9_findsSeat_98 : decode cX9_findsSeat 98 = .ok (.iload 7, 2) := by decide +kernel
theorem dX9_findsSeat_100 : decode cX9_findsSeat 100 = .ok (.ifCond .eq 17, 3) := by decide +kernel
theorem dX9_findsSeat_103 : decode cX9_findsSeat 103 = .ok (.aload_n 0, 1) := by decide +kernel
theorem dX9_findsSeat_104 : decode cX9_findsSeat 104 = .ok (.iload 4, 2) := by decide +kernel
theorem dX9_findsSeat_106 : decode cX9_findsSeat 106 = .ok (.putfield 426, 3) := by decide +kernel
theorem dX9_findsSeat_109 : decode cX9_findsSeat 109 = .ok (.aload_n 0, 1) := by decide +kernel
theorem dX9_findsSeat_110 : decode cX9_findsSeat 110 = .ok (.iload 6, 2) := by decide +kernel
theorem dX9_findsSeat_112 : decode cX9_findsSeat 112 = .ok (.putfield 429, 3) := by decide +kernel
theorem dX9_findsSeat_115 : decode cX9_findsSeat 115 = .ok (.iconst 1, 1) := by decide +kernel
theorem dX9_findsSeat_116 : decode cX9_findsSeat 116 = .ok (.ireturn, 1) := by decide +kernel
theorem dX9_findsSeat_117 : decode cX9_findsSeat 117 = .ok (.iinc 6 1, 3) := by decide +kernel
theorem dX9_findsSeat_120 : decode cX9_findsSeat 120 = .ok (.goto (-94), 3) := by decide +kernel
theorem dX9_findsSeat_123 : decode cX9_findsSeat 123 = .ok (.iinc 4 1, 3) := by decide +kernel
theorem dX9_findsSeat_126 : decode cX9_findsSeat 126 = .ok (.goto (-123), 3) := by decide +kernel
theorem dX9_findsSeat_129 : decode cX9_findsSeat 129 = .ok (.iconst 0, 1) := by decide +kernel
theorem dX9_findsSeat_130 : decode cX9_findsSeat 130 = .ok (.ireturn, 1) := by decide +kernel
theorem dX9_seated_0 : decode cX9_seated 0 = .ok (.aload_n 0, 1) := by decide +kernel
theorem dX9_seated_1 : decode cX9_seated 1 = .ok (.iload_n 1, 1) := by decide +kernel
theorem dX9_seated_2 : decode cX9_seated 2 = .ok (.iload_n 2, 1) := by decide +kernel
theorem dX9_seated_3 : decode cX9_seated 3 = .ok (.bipush 30, 2) := by decide +kernel
theorem dX9_seated_5 : decode cX9_seated 5 = .ok (.invokevirtual 413, 3) := by decide +kernel
theorem dX9_seated_8 : decode cX9_seated 8 = .ok (.ifCond .eq 24, 3) := by decide +kernel
theorem dX9_seated_11 : decode cX9_seated 11 = .ok (.aload_n 0, 1) := by decide +kernel
theorem dX9_seated_12 : decode cX9_seated 12 = .ok (.iload_n 3, 1) := by decide +kernel
theorem dX9_seated_13 : decode cX9_seated 13 = .ok (.invokevirtual 359, 3) := by decide +kernel
theorem dX9_seated_16 : decode cX9_seated 16 = .ok (.ifCond .eq 16, 3) := by decide +kernel
theorem dX9_seated_19 : decode cX9_seated 19 = .ok (.iload 4, 2) := by decide +kernel
theorem dX9_seated_21 : decode cX9_seated 21 = .ok (.i2l, 1) := by decide +kernel
theorem dX9_seated_22 : decode cX9_seated 22 = .ok (.lconst 0, 1) := by decide +kernel
theorem dX9_seated_23 : decode cX9_seated 23 = .ok (.ldc2_w 432, 3) := by decide +kernel
theorem dX9_seated_26 : decode cX9_seated 26 = .ok (.invokestatic 146, 3) := by decide +kernel
theorem dX9_seated_29 : decode cX9_seated 29 = .ok (.ifCond .ne 5, 3) := by decide +kernel
theorem dX9_seated_32 : decode cX9_seated 32 = .ok (.iconst (-1), 1) := by decide +kernel
theorem dX9_seated_33 : decode cX9_seated 33 = .ok (.ireturn, 1) := by decide +kernel
theorem dX9_seated_34 : decode cX9_seated 34 = .ok (.aload_n 0, 1) := by decide +kernel
theorem dX9_seated_35 : decode cX9_seated 35 = .ok (.iload_n 1, 1) := by decide +kernel
theorem dX9_seated_36 : decode cX9_seated 36 = .ok (.iload_n 2, 1) := by decide +kernel
theorem dX9_seated_37 : decode cX9_seated 37 = .ok (.iload_n 3, 1) := by decide +kernel
theorem dX9_seated_38 : decode cX9_seated 38 = .ok (.invokevirtual 434, 3) := by decide +kernel
theorem dX9_seated_41 : decode cX9_seated 41 = .ok (.ifCond .ne 6, 3) := by decide +kernel
theorem dX9_seated_44 : decode cX9_seated 44 = .ok (.bipush (-2), 2) := by decide +kernel
theorem dX9_seated_46 : decode cX9_seated 46 = .ok (.ireturn, 1) := by decide +kernel
theorem dX9_seated_47 : decode cX9_seated 47 = .ok (.iload 4, 2) := by decide +kernel
theorem dX9_seated_49 : decode cX9_seated 49 = .ok (.ifCond .ne 10, 3) := by decide +kernel
theorem dX9_seated_52 : decode cX9_seated 52 = .ok (.aload_n 0, 1) := by decide +kernel
theorem dX9_seated_53 : decode cX9_seated 53 = .ok (.getfield 426, 3) := by decide +kernel
theorem dX9_seated_56 : decode cX9_seated 56 = .ok (.goto 14, 3) := by decide +kernel
theorem dX9_seated_59 : decode cX9_seated 59 = .ok (.aload_n 0, 1) := by decide +kernel
theorem dX9_seated_60 : decode cX9_seated 60 = .ok (.getfield 429, 3) := by decide +kernel
theorem dX9_seated_63 : decode cX9_seated 63 = .ok (.iload 4, 2) := by decide +kernel
theorem dX9_seated_65 : decode cX9_seated 65 = .ok (.iconst 1, 1) := by decide +kernel
theorem dX9_seated_66 : decode cX9_seated 66 = .ok (.isub, 1) := by decide +kernel
theorem dX9_seated_67 : decode cX9_seated 67 = .ok (.invokestatic 420, 3) := by decide +kernel
theorem dX9_seated_70 : decode cX9_seated 70 = .ok (.ireturn, 1) := by decide +kernel
theorem dX9_changed_0 : decode cX9_changed 0 = .ok (.aload_n 0, 1) := by decide +kernel
theorem dX9_changed_1 : decode cX9_changed 1 = .ok (.iload_n 1, 1) := by decide +kernel
theorem dX9_changed_2 : decode cX9_changed 2 = .ok (.iload_n 2, 1) := by decide +kernel
theorem dX9_changed_3 : decode cX9_changed 3 = .ok (.bipush 30, 2) := by decide +kernel
theorem dX9_changed_5 : decode cX9_changed 5 = .ok (.invokevirtual 413, 3) := by decide +kernel
theorem dX9_changed_8 : decode cX9_changed 8 = .ok (.ifCond .eq 11, 3) := by decide +kernel
theorem dX9_changed_11 : decode cX9_changed 11 = .ok (.aload_n 0, 1) := by decide +kernel
theorem dX9_changed_12 : decode cX9_changed 12 = .ok (.iload_n 3, 1) := by decide +kernel
theorem dX9_changed_13 : decode cX9_changed 13 = .ok (.invokevirtual 359, 3) := by decide +kernel
theorem dX9_changed_16 : decode cX9_changed 16 = .ok (.ifCond .ne 5, 3) := by decide +kernel
theorem dX9_changed_19 : decode cX9_changed 19 = .ok (.iconst (-1), 1) := by decide +kernel
theorem dX9_changed_20 : decode cX9_changed 20 = .ok (.ireturn, 1) := by decide +kernel
theorem dX9_changed_21 : decode cX9_changed 21 = .ok (.iconst 0, 1) := by decide +kernel
theorem dX9_changed_22 : decode cX9_changed 22 = .ok (.istore 4, 2) := by decide +kernel
theorem dX9_changed_24 : decode cX9_changed 24 = .ok (.iload 4, 2) := by decide +kernel
theorem dX9_changed_26 : decode cX9_changed 26 = .ok (.aload_n 0, 1) := by decide +kernel
theorem dX9_changed_27 : decode cX9_changed 27 = .ok (.getfield 7, 3) := by decide +kernel
theorem dX9_changed_30 : decode cX9_changed 30 = .ok (.iconst 2, 1) := by decide +kernel
theorem dX9_changed_31 : decode cX9_changed 31 = .ok (.iaload, 1) := by decide +kernel
theorem dX9_changed_32 : decode cX9_changed 32 = .ok (.if_icmp .ge 102, 3) := by decide +kernel
theorem dX9_changed_35 : decode cX9_changed 35 = .ok (.iload 4, 2) := by decide +kernel
theorem dX9_changed_37 : decode cX9_changed 37 = .ok (.iconst 1, 1) := by decide +kernel
theorem dX9_changed_38 : decode cX9_changed 38 = .ok (.iadd, 1) := by decide +kernel
theorem dX9_changed_39 : decode cX9_changed 39 = .ok (.istore 5, 2) := by decide +kernel
theorem dX9_changed_41 : decode cX9_changed 41 = .ok (.iload 5, 2) := by decide +kernel
theorem dX9_changed_43 : decode cX9_changed 43 = .ok (.aload_n 0, 1) := by decide +kernel
theorem dX9_changed_44 : decode cX9_changed 44 = .ok (.getfield 7, 3) := by decide +kernel
theorem dX9_changed_47 : decode cX9_changed 47 = .ok (.iconst 2, 1) := by decide +kernel
theorem dX9_changed_48 : decode cX9_changed 48 = .ok (.iaload, 1) := by decide +kernel
theorem dX9_changed_49 : decode cX9_changed 49 = .ok (.if_icmp .ge 79, 3) := by decide +kernel
theorem dX9_changed_52 : decode cX9_changed 52 = .ok (.aload_n 0, 1) := by decide +kernel
theorem dX9_changed_53 : decode cX9_changed 53 = .ok (.iload 4, 2) := by decide +kernel
theorem dX9_changed_55 : decode cX9_changed 55 = .ok (.invokevirtual 359, 3) := by decide +kernel
theorem dX9_changed_58 : decode cX9_changed 58 = .ok (.ifCond .eq 64, 3) := by decide +kernel
theorem dX9_changed_61 : decode cX9_changed 61 = .ok (.aload_n 0, 1) := by decide +kernel
theorem dX9_changed_62 : decode cX9_changed 62 = .ok (.iload 5, 2) := by decide +kernel
theorem dX9_changed_64 : decode cX9_changed 64 = .ok (.invokevirtual 359, 3) := by decide +kernel
theorem dX9_changed_67 : decode cX9_changed 67 = .ok (.ifCond .eq 55, 3) := by decide +kernel
theorem dX9_changed_70 : decode cX9_changed 70 = .ok (.aload_n 0, 1) := by decide +kernel
theorem dX9_changed_71 : decode cX9_changed 71 = .ok (.iload 4, 2) := by decide +kernel
theorem dX9_changed_73 : decode cX9_changed 73 = .ok (.iload 5, 2) := by decide +kernel
theorem dX9_changed_75 : decode cX9_changed 75 = .ok (.invokevirtual 362, 3) := by decide +kernel
theorem dX9_changed_78 : decode cX9_changed 78 = .ok (.aload_n 0, 1) := by decide +kernel
theorem dX9_changed_79 : decode cX9_changed 79 = .ok (.iload_n 1, 1) := by decide +kernel
theorem dX9_changed_80 : decode cX9_changed 80 = .ok (.iload_n 2, 1) := by decide +kernel
theorem dX9_changed_81 : decode cX9_changed 81 = .ok (.invokevirtual 417, 3) := by decide +kernel
theorem dX9_changed_84 : decode cX9_changed 84 = .ok (.aload_n 0, 1) := by decide +kernel
theorem dX9_changed_85 : decode cX9_changed 85 = .ok (.getfield 16, 3) := by decide +kernel
theorem dX9_changed_88 : decode cX9_changed 88 = .ok (.iload_n 3, 1) := by decide +kernel
theorem dX9_changed_89 : decode cX9_changed 89 = .ok (.iaload, 1) := by decide +kernel
theorem dX9_changed_90 : decode cX9_changed 90 = .ok (.if_icmp .ne 7, 3) := by decide +kernel
theorem dX9_changed_93 : decode cX9_changed 93 = .ok (.iconst 1, 1) := by decide +kernel
theorem dX9_changed_94 : decode cX9_changed 94 = .ok (.goto 4, 3) := by decide +kernel
theorem dX9_changed_97 : decode cX9_changed 97 = .ok (.iconst 0, 1) := by decide +kernel
theorem dX9_changed_98 : decode cX9_changed 98 = .ok (.istore 6, 2) := by decide +kernel
theorem dX9_changed_100 : decode cX9_changed 100 = .ok (.aload_n 0, 1) := by decide +kernel
theorem dX9_changed_101 : decode cX9_changed 101 = .ok (.iload 4, 2) := by decide +kernel
theorem dX9_changed_103 : decode cX9_changed 103 = .ok (.iload 5, 2) := by decide +kernel
theorem dX9_changed_105 : decode cX9_changed 105 = .ok (.invokevirtual 362, 3) := by decide +kernel
theorem dX9_changed_108 : decode cX9_changed 108 = .ok (.iload 6, 2) := by decide +kernel
theorem dX9_changed_110 : decode cX9_changed 110 = .ok (.ifCond .eq 12, 3) := by decide +kernel
theorem dX9_changed_113 : decode cX9_changed 113 = .ok (.bipush 16, 2) := by decide +kernel
theorem dX9_changed_115 : decode cX9_changed 115 = .ok (.iload 4, 2) := by decide +kernel
theorem dX9_changed_117 : decode cX9_changed 117 = .ok (.imul, 1) := by decide +kernel
theorem dX9_changed_118 : decode cX9_changed 118 = .ok (.iload 5, 2) := by decide +kernel
theorem dX9_changed_120 : decode cX9_changed 120 = .ok (.iadd, 1) := by decide +kernel
theorem dX9_changed_121 : decode cX9_changed 121 = .ok (.ireturn, 1) := by decide +kernel
theorem dX9_changed_122 : decode cX9_changed 122 = .ok (.iinc 5 1, 3) := by decide +kernel
theorem dX9_changed_125 : decode cX9_changed 125 = .ok (.goto (-84), 3) := by decide +kernel
theorem dX9_changed_128 : decode cX9_changed 128 = .ok (.iinc 4 1, 3) := by decide +kernel
theorem dX9_changed_131 : decode cX9_changed 131 = .ok (.goto (-107), 3) := by decide +kernel
theorem dX9_changed_134 : decode cX9_changed 134 = .ok (.bipush (-2), 2) := by decide +kernel
theorem dX9_changed_136 : decode cX9_changed 136 = .ok (.ireturn, 1) := by decide +kernel
theorem dX9_farWithout_0 : decode cX9_farWithout 0 = .ok (.aload_n 0, 1) := by decide +kernel
theorem dX9_farWithout_1 : decode cX9_farWithout 1 = .ok (.iload_n 1, 1) := by decide +kernel
theorem dX9_farWithout_2 : decode cX9_farWithout 2 = .ok (.iload_n 2, 1) := by decide +kernel
theorem dX9_farWithout_3 : decode cX9_farWithout 3 = .ok (.invokevirtual 417, 3) := by decide +kernel
theorem dX9_farWithout_6 : decode cX9_farWithout 6 = .ok (.istore 4, 2) := by decide +kernel
theorem dX9_farWithout_8 : decode cX9_farWithout 8 = .ok (.aload_n 0, 1) := by decide +kernel
theorem dX9_farWithout_9 : decode cX9_farWithout 9 = .ok (.getfield 16, 3) := by decide +kernel
theorem dX9_farWithout_12 : decode cX9_farWithout 12 = .ok (.iload_n 3, 1) := by decide +kernel
theorem dX9_farWithout_13 : decode cX9_farWithout 13 = .ok (.iaload, 1) := by decide +kernel
theorem dX9_farWithout_14 : decode cX9_farWithout 14 = .ok (.istore 5, 2) := by decide +kernel
theorem dX9_farWithout_16 : decode cX9_farWithout 16 = .ok (.aload_n 0, 1) := by decide +kernel
theorem dX9_farWithout_17 : decode cX9_farWithout 17 = .ok (.getfield 16, 3) := by decide +kernel
theorem dX9_farWithout_20 : decode cX9_farWithout 20 = .ok (.iload_n 3, 1) := by decide +kernel
theorem dX9_farWithout_21 : decode cX9_farWithout 21 = .ok (.iconst (-1), 1) := by decide +kernel
theorem dX9_farWithout_22 : decode cX9_farWithout 22 = .ok (.iastore, 1) := by decide +kernel
theorem dX9_farWithout_23 : decode cX9_farWithout 23 = .ok (.aload_n 0, 1) := by decide +kernel
theorem dX9_farWithout_24 : decode cX9_farWithout 24 = .ok (.iload_n 1, 1) := by decide +kernel
theorem dX9_farWithout_25 : decode cX9_farWithout 25 = .ok (.iload_n 2, 1) := by decide +kernel
theorem dX9_farWithout_26 : decode cX9_farWithout 26 = .ok (.invokevirtual 417, 3) := by decide +kernel
theorem dX9_farWithout_29 : decode cX9_farWithout 29 = .ok (.istore 6, 2) := by decide +kernel
theorem dX9_farWithout_31 : decode cX9_farWithout 31 = .ok (.aload_n 0, 1) := by decide +kernel
theorem dX9_farWithout_32 : decode cX9_farWithout 32 = .ok (.getfield 16, 3) := by decide +kernel
theorem dX9_farWithout_35 : decode cX9_farWithout 35 = .ok (.iload_n 3, 1) := by decide +kernel
theorem dX9_farWithout_36 : decode cX9_farWithout 36 = .ok (.iload 5, 2) := by decide +kernel
theorem dX9_farWithout_38 : decode cX9_farWithout 38 = .ok (.iastore, 1) := by decide +kernel
theorem dX9_farWithout_39 : decode cX9_farWithout 39 = .ok (.iload 4, 2) := by decide +kernel
theorem dX9_farWithout_41 : decode cX9_farWithout 41 = .ok (.bipush 10, 2) := by decide +kernel
theorem dX9_farWithout_43 : decode cX9_farWithout 43 = .ok (.irem, 1) := by decide +kernel
theorem dX9_farWithout_44 : decode cX9_farWithout 44 = .ok (.iload 6, 2) := by decide +kernel
theorem dX9_farWithout_46 : decode cX9_farWithout 46 = .ok (.bipush 10, 2) := by decide +kernel
theorem dX9_farWithout_48 : decode cX9_farWithout 48 = .ok (.irem, 1) := by decide +kernel
theorem dX9_farWithout_49 : decode cX9_farWithout 49 = .ok (.invokestatic 437, 3) := by decide +kernel
theorem dX9_farWithout_52 : decode cX9_farWithout 52 = .ok (.iload 4, 2) := by decide +kernel
theorem dX9_farWithout_54 : decode cX9_farWithout 54 = .ok (.bipush 10, 2) := by decide +kernel
theorem dX9_farWithout_56 : decode cX9_farWithout 56 = .ok (.idiv, 1) := by decide +kernel
theorem dX9_farWithout_57 : decode cX9_farWithout 57 = .ok (.iload 6, 2) := by decide +kernel
theorem dX9_farWithout_59 : decode cX9_farWithout 59 = .ok (.bipush 10, 2) := by decide +kernel
theorem dX9_farWithout_61 : decode cX9_farWithout 61 = .ok (.idiv, 1) := by decide +kernel
theorem dX9_farWithout_62 : decode cX9_farWithout 62 = .ok (.invokestatic 437, 3) := by decide +kernel
theorem dX9_farWithout_65 : decode cX9_farWithout 65 = .ok (.iadd, 1) := by decide +kernel
theorem dX9_farWithout_66 : decode cX9_farWithout 66 = .ok (.ireturn, 1) := by decide +kernel
theorem dX9_without_0 : decode cX9_without 0 = .ok (.aload_n 0, 1) := by decide +kernel
theorem dX9_without_1 : decode cX9_without 1 = .ok (.iload_n 1, 1) := by decide +kernel
theorem dX9_without_2 : decode cX9_without 2 = .ok (.iload_n 2, 1) := by decide +kernel
theorem dX9_without_3 : decode cX9_without 3 = .ok (.bipush 60, 2) := by decide +kernel
theorem dX9_without_5 : decode cX9_without 5 = .ok (.invokevirtual 413, 3) := by decide +kernel
theorem dX9_without_8 : decode cX9_without 8 = .ok (.ifCond .eq 11, 3) := by decide +kernel
theorem dX9_without_11 : decode cX9_without 11 = .ok (.aload_n 0, 1) := by decide +kernel
theorem dX9_without_12 : decode cX9_without 12 = .ok (.iload_n 3, 1) := by decide +kernel
theorem dX9_without_13 : decode cX9_without 13 = .ok (.invokevirtual 359, 3) := by decide +kernel
theorem dX9_without_16 : decode cX9_without 16 = .ok (.ifCond .ne 7, 3) := by decide +kernel
theorem dX9_without_19 : decode cX9_without 19 = .ok (.iconst (-1), 1) := by decide +kernel
theorem dX9_without_20 : decode cX9_without 20 = .ok (.goto 10, 3) := by decide +kernel
theorem dX9_without_23 : decode cX9_without 23 = .ok (.aload_n 0, 1) := by decide +kernel
theorem dX9_without_24 : decode cX9_without 24 = .ok (.iload_n 1, 1) := by decide +kernel
theorem dX9_without_25 : decode cX9_without 25 = .ok (.iload_n 2, 1) := by decide +kernel
theorem dX9_without_26 : decode cX9_without 26 = .ok (.iload_n 3, 1) := by decide +kernel
theorem dX9_without_27 : decode cX9_without 27 = .ok (.invokevirtual 440, 3) := by decide +kernel
theorem dX9_without_30 : decode cX9_without 30 = .ok (.ireturn, 1) := by decide +kernel
theorem dX9_baron_0 : decode cX9_baron 0 = .ok (.aload_n 0, 1) := by decide +kernel
theorem dX9_baron_1 : decode cX9_baron 1 = .ok (.iload_n 1, 1) := by decide +kernel
theorem dX9_baron_2 : decode cX9_baron 2 = .ok (.iload_n 2, 1) := by decide +kernel
theorem dX9_baron_3 : decode cX9_baron 3 = .ok (.bipush 60, 2) := by decide +kernel
theorem dX9_baron_5 : decode cX9_baron 5 = .ok (.invokevirtual 413, 3) := by decide +kernel
theorem dX9_baron_8 : decode cX9_baron 8 = .ok (.ifCond .eq 13, 3) := by decide +kernel
theorem dX9_baron_11 : decode cX9_baron 11 = .ok (.iload_n 3, 1) := by decide +kernel
theorem dX9_baron_12 : decode cX9_baron 12 = .ok (.i2l, 1) := by decide +kernel
theorem dX9_baron_13 : decode cX9_baron 13 = .ok (.lconst 0, 1) := by decide +kernel
theorem dX9_baron_14 : decode cX9_baron 14 = .ok (.lconst 1, 1) := by decide +kernel
theorem dX9_baron_15 : decode cX9_baron 15 = .ok (.invokestatic 146, 3) := by decide +kernel
theorem dX9_baron_18 : decode cX9_baron 18 = .ok (.ifCond .ne 5, 3) := by decide +kernel
theorem dX9_baron_21 : decode cX9_baron 21 = .ok (.iconst (-1), 1) := by decide +kernel
theorem dX9_baron_22 : decode cX9_baron 22 = .ok (.ireturn, 1) := by decide +kernel
theorem dX9_baron_23 : decode cX9_baron 23 = .ok (.bipush (-2), 2) := by decide +kernel
theorem dX9_baron_25 : decode cX9_baron 25 = .ok (.istore 4, 2) := by decide +kernel
theorem dX9_baron_27 : decode cX9_baron 27 = .ok (.iconst 0, 1) := by decide +kernel
theorem dX9_baron_28 : decode cX9_baron 28 = .ok (.istore 5, 2) := by decide +kernel
theorem dX9_baron_30 : decode cX9_baron 30 = .ok (.iconst 0, 1) := by decide +kernel
theorem dX9_baron_31 : decode cX9_baron 31 = .ok (.istore 6, 2) := by decide +kernel
theorem dX9_baron_33 : decode cX9_baron 33 = .ok (.iload 6, 2) := by decide +kernel
theorem dX9_baron_35 : decode cX9_baron 35 = .ok (.aload_n 0, 1) := by decide +kernel
theorem dX9_baron_36 : decode cX9_baron 36 = .ok (.getfield 7, 3) := by decide +kernel
theorem dX9_baron_39 : decode cX9_baron 39 = .ok (.iconst 2, 1) := by decide +kernel
theorem dX9_baron_40 : decode cX9_baron 40 = .ok (.iaload, 1) := by decide +kernel
theorem dX9_baron_41 : decode cX9_baron 41 = .ok (.if_icmp .ge 50, 3) := by decide +kernel
theorem dX9_baron_44 : decode cX9_baron 44 = .ok (.aload_n 0, 1) := by decide +kernel
theorem dX9_baron_45 : decode cX9_baron 45 = .ok (.iload 6, 2) := by decide +kernel
theorem dX9_baron_47 : decode cX9_baron 47 = .ok (.invokevirtual 359, 3) := by decide +kernel
theorem dX9_baron_50 : decode cX9_baron 50 = .ok (.ifCond .eq 35, 3) := by decide +kernel
theorem dX9_baron_53 : decode cX9_baron 53 = .ok (.aload_n 0, 1) := by decide +kernel
theorem dX9_baron_54 : decode cX9_baron 54 = .ok (.iload_n 1, 1) := by decide +kernel
theorem dX9_baron_55 : decode cX9_baron 55 = .ok (.iload_n 2, 1) := by decide +kernel
theorem dX9_baron_56 : decode cX9_baron 56 = .ok (.iload 6, 2) := by decide +kernel
theorem dX9_baron_58 : decode cX9_baron 58 = .ok (.invokevirtual 440, 3) := by decide +kernel
theorem dX9_baron_61 : decode cX9_baron 61 = .ok (.istore 7, 2) := by decide +kernel
theorem dX9_baron_63 : decode cX9_baron 63 = .ok (.iload 4, 2) := by decide +kernel
theorem dX9_baron_65 : decode cX9_baron 65 = .ok (.bipush (-2), 2) := by decide +kernel
theorem dX9_baron_67 : decode cX9_baron 67 = .ok (.if_icmp .eq 10, 3) := by decide +kernel
theorem dX9_baron_70 : decode cX9_baron 70 = .ok (.iload 7, 2) := by decide +kernel
theorem dX9_baron_72 : decode cX9_baron 72 = .ok (.iload 5, 2) := by decide +kernel
theorem dX9_baron_74 : decode cX9_baron 74 = .ok (.if_icmp .le 11, 3) := by decide +kernel
theorem dX9_baron_77 : decode cX9_baron 77 = .ok (.iload 6, 2) := by decide +kernel
theorem dX9_baron_79 : decode cX9_baron 79 = .ok (.istore 4, 2) := by decide +kernel
theorem dX9_baron_81 : decode cX9_baron 81 = .ok (.iload 7, 2) := by decide +kernel
theorem dX9_baron_83 : decode cX9_baron 83 = .ok (.istore 5, 2) := by decide +kernel
theorem dX9_baron_85 : decode cX9_baron 85 = .ok (.iinc 6 1, 3) := by decide +kernel
theorem dX9_baron_88 : decode cX9_baron 88 = .ok (.goto (-55), 3) := by decide +kernel
theorem dX9_baron_91 : decode cX9_baron 91 = .ok (.iload 4, 2) := by decide +kernel
theorem dX9_baron_93 : decode cX9_baron 93 = .ok (.bipush (-2), 2) := by decide +kernel
theorem dX9_baron_95 : decode cX9_baron 95 = .ok (.if_icmp .eq 7, 3) := by decide +kernel
theorem dX9_baron_98 : decode cX9_baron 98 = .ok (.iload_n 3, 1) := by decide +kernel
theorem dX9_baron_99 : decode cX9_baron 99 = .ok (.ifCond .ne 8, 3) := by decide +kernel
theorem dX9_baron_102 : decode cX9_baron 102 = .ok (.iload 4, 2) := by decide +kernel
theorem dX9_baron_104 : decode cX9_baron 104 = .ok (.goto 5, 3) := by decide +kernel
theorem dX9_baron_107 : decode cX9_baron 107 = .ok (.iload 5, 2) := by decide +kernel
theorem dX9_baron_109 : decode cX9_baron 109 = .ok (.ireturn, 1) := by decide +kernel
theorem dX9_led_0 : decode cX9_led 0 = .ok (.aload_n 0, 1) := by decide +kernel
theorem dX9_led_1 : decode cX9_led 1 = .ok (.iload_n 1, 1) := by decide +kernel
theorem dX9_led_2 : decode cX9_led 2 = .ok (.iload_n 2, 1) := by decide +kernel
theorem dX9_led_3 : decode cX9_led 3 = .ok (.bipush 60, 2) := by decide +kernel
theorem dX9_led_5 : decode cX9_led 5 = .ok (.invokevirtual 413, 3) := by decide +kernel
theorem dX9_led_8 : decode cX9_led 8 = .ok (.ifCond .ne 5, 3) := by decide +kernel
theorem dX9_led_11 : decode cX9_led 11 = .ok (.iconst (-1), 1) := by decide +kernel
theorem dX9_led_12 : decode cX9_led 12 = .ok (.ireturn, 1) := by decide +kernel
theorem dX9_led_13 : decode cX9_led 13 = .ok (.iconst 0, 1) := by decide +kernel
theorem dX9_led_14 : decode cX9_led 14 = .ok (.istore_n 3, 1) := by decide +kernel
theorem dX9_led_15 : decode cX9_led 15 = .ok (.iconst 0, 1) := by decide +kernel
theorem dX9_led_16 : decode cX9_led 16 = .ok (.istore 4, 2) := by decide +kernel
theorem dX9_led_18 : decode cX9_led 18 = .ok (.iload 4, 2) := by decide +kernel
theorem dX9_led_20 : decode cX9_led 20 = .ok (.aload_n 0, 1) := by decide +kernel
theorem dX9_led_21 : decode cX9_led 21 = .ok (.getfield 7, 3) := by decide +kernel
theorem dX9_led_24 : decode cX9_led 24 = .ok (.iconst 2, 1) := by decide +kernel
theorem dX9_led_25 : decode cX9_led 25 = .ok (.iaload, 1) := by decide +kernel
theorem dX9_led_26 : decode cX9_led 26 = .ok (.if_icmp .ge 40, 3) := by decide +kernel
theorem dX9_led_29 : decode cX9_led 29 = .ok (.iload_n 3, 1) := by decide +kernel
theorem dX9_led_30 : decode cX9_led 30 = .ok (.aload_n 0, 1) := by decide +kernel
theorem dX9_led_31 : decode cX9_led 31 = .ok (.iload 4, 2) := by decide +kernel
theorem dX9_led_33 : decode cX9_led 33 = .ok (.invokevirtual 359, 3) := by decide +kernel
theorem dX9_led_36 : decode cX9_led 36 = .ok (.ifCond .eq 21, 3) := by decide +kernel
theorem dX9_led_39 : decode cX9_led 39 = .ok (.aload_n 0, 1) := by decide +kernel
theorem dX9_led_40 : decode cX9_led 40 = .ok (.iload_n 1, 1) := by decide +kernel
theorem dX9_led_41 : decode cX9_led 41 = .ok (.iload_n 2, 1) := by decide +kernel
theorem dX9_led_42 : decode cX9_led 42 = .ok (.iload 4, 2) := by decide +kernel
theorem dX9_led_44 : decode cX9_led 44 = .ok (.invokevirtual 440, 3) := by decide +kernel
theorem dX9_led_47 : decode cX9_led 47 = .ok (.ifCond .le 10, 3) := by decide +kernel
theorem dX9_led_50 : decode cX9_led 50 = .ok (.iconst 1, 1) := by decide +kernel
theorem dX9_led_51 : decode cX9_led 51 = .ok (.iload 4, 2) := by decide +kernel
theorem dX9_led_53 : decode cX9_led 53 = .ok (.ishl, 1) := by decide +kernel
theorem dX9_led_54 : decode cX9_led 54 = .ok (.goto 4, 3) := by decide +kernel
theorem dX9_led_57 : decode cX9_led 57 = .ok (.iconst 0, 1) := by decide +kernel
theorem dX9_led_58 : decode cX9_led 58 = .ok (.ior, 1) := by decide +kernel
theorem dX9_led_59 : decode cX9_led 59 = .ok (.istore_n 3, 1) := by decide +kernel
theorem dX9_led_60 : decode cX9_led 60 = .ok (.iinc 4 1, 3) := by decide +kernel
theorem dX9_led_63 : decode cX9_led 63 = .ok (.goto (-45), 3) := by decide +kernel
theorem dX9_led_66 : decode cX9_led 66 = .ok (.iload_n 3, 1) := by decide +kernel
theorem dX9_led_67 : decode cX9_led 67 = .ok (.ireturn, 1) := by decide +kernel
theorem dX9_findsFan_0 : decode cX9_findsFan 0 = .ok (.aload_n 0, 1) := by decide +kernel
theorem dX9_findsFan_1 : decode cX9_findsFan 1 = .ok (.getfield 7, 3) := by decide +kernel
theorem dX9_findsFan_4 : decode cX9_findsFan 4 = .ok (.iconst 3, 1) := by decide +kernel
theorem dX9_findsFan_5 : decode cX9_findsFan 5 = .ok (.iaload, 1) := by decide +kernel
theorem dX9_findsFan_6 : decode cX9_findsFan 6 = .ok (.istore 4, 2) := by decide +kernel
theorem dX9_findsFan_8 : decode cX9_findsFan 8 = .ok (.iconst 0, 1) := by decide +kernel
theorem dX9_findsFan_9 : decode cX9_findsFan 9 = .ok (.istore 5, 2) := by decide +kernel
theorem dX9_findsFan_11 : decode cX9_findsFan 11 = .ok (.iconst 1, 1) := by decide +kernel
theorem dX9_findsFan_12 : decode cX9_findsFan 12 = .ok (.istore 6, 2) := by decide +kernel
theorem dX9_findsFan_14 : decode cX9_findsFan 14 = .ok (.iload 6, 2) := by decide +kernel
theorem dX9_findsFan_16 : decode cX9_findsFan 16 = .ok (.bipush 9, 2) := by decide +kernel
theorem dX9_findsFan_18 : decode cX9_findsFan 18 = .ok (.if_icmp .gt 146, 3) := by decide +kernel
theorem dX9_findsFan_21 : decode cX9_findsFan 21 = .ok (.iload 5, 2) := by decide +kernel
theorem dX9_findsFan_23 : decode cX9_findsFan 23 = .ok (.ifCond .ne 141, 3) := by decide +kernel
theorem dX9_findsFan_26 : decode cX9_findsFan 26 = .ok (.iconst 0, 1) := by decide +kernel
theorem dX9_findsFan_27 : decode cX9_findsFan 27 = .ok (.istore 7, 2) := by decide +kernel
theorem dX9_findsFan_29 : decode cX9_findsFan 29 = .ok (.iload 7, 2) := by decide +kernel
theorem dX9_findsFan_31 : decode cX9_findsFan 31 = .ok (.bipush 80, 2) := by decide +kernel
theorem dX9_findsFan_33 : decode cX9_findsFan 33 = .ok (.if_icmp .ge 125, 3) := by decide +kernel
theorem dX9_findsFan_36 : decode cX9_findsFan 36 = .ok (.iload 5, 2) := by decide +kernel
theorem dX9_findsFan_38 : decode cX9_findsFan 38 = .ok (.ifCond .ne 120, 3) := by decide +kernel
theorem dX9_findsFan_41 : decode cX9_findsFan 41 = .ok (.iconst 1, 1) := by decide +kernel
theorem dX9_findsFan_42 : decode cX9_findsFan 42 = .ok (.istore 8, 2) := by decide +kernel
theorem dX9_findsFan_44 : decode cX9_findsFan 44 = .ok (.iload 8, 2) := by decide +kernel
theorem dX9_findsFan_46 : decode cX9_findsFan 46 = .ok (.iconst 5, 1) := by decide +kernel
theorem dX9_findsFan_47 : decode cX9_findsFan 47 = .ok (.if_icmp .ge 105, 3) := by decide +kernel
theorem dX9_findsFan_50 : decode cX9_findsFan 50 = .ok (.iload 5, 2) := by decide +kernel
theorem dX9_findsFan_52 : decode cX9_findsFan 52 = .ok (.ifCond .ne 100, 3) := by decide +kernel
theorem dX9_findsFan_55 : decode cX9_findsFan 55 = .ok (.aload_n 0, 1) := by decide +kernel
theorem dX9_findsFan_56 : decode cX9_findsFan 56 = .ok (.iload 7, 2) := by decide +kernel
theorem dX9_findsFan_58 : decode cX9_findsFan 58 = .ok (.invokevirtual 370, 3) := by decide +kernel
theorem dX9_findsFan_61 : decode cX9_findsFan 61 = .ok (.ifCond .eq 91, 3) := by decide +kernel
theorem dX9_findsFan_64 : decode cX9_findsFan 64 = .ok (.aload_n 0, 1) := by decide +kernel
theorem dX9_findsFan_65 : decode cX9_findsFan 65 = .ok (.getfield 28, 3) := by decide +kernel
theorem dX9_findsFan_68 : decode cX9_findsFan 68 = .ok (.iload 4, 2) := by decide +kernel
theorem dX9_findsFan_70 : decode cX9_findsFan 70 = .ok (.iload 7, 2) := by decide +kernel
theorem dX9_findsFan_72 : decode cX9_findsFan 72 = .ok (.iastore, 1) := by decide +kernel
theorem dX9_findsFan_73 : decode cX9_findsFan 73 = .ok (.aload_n 0, 1) := by decide +kernel
theorem dX9_findsFan_74 : decode cX9_findsFan 74 = .ok (.getfield 31, 3) := by decide +kernel
theorem dX9_findsFan_77 : decode cX9_findsFan 77 = .ok (.iload 4, 2) := by decide +kernel
theorem dX9_findsFan_79 : decode cX9_findsFan 79 = .ok (.iload 8, 2) := by decide +kernel
theorem dX9_findsFan_81 : decode cX9_findsFan 81 = .ok (.iastore, 1) := by decide +kernel
theorem dX9_findsFan_82 : decode cX9_findsFan 82 = .ok (.aload_n 0, 1) := by decide +kernel
theorem dX9_findsFan_83 : decode cX9_findsFan 83 = .ok (.getfield 34, 3) := by decide +kernel
theorem dX9_findsFan_86 : decode cX9_findsFan 86 = .ok (.iload 4, 2) := by decide +kernel
theorem dX9_findsFan_88 : decode cX9_findsFan 88 = .ok (.iload 6, 2) := by decide +kernel
theorem dX9_findsFan_90 : decode cX9_findsFan 90 = .ok (.iastore, 1) := by decide +kernel
theorem dX9_findsFan_91 : decode cX9_findsFan 91 = .ok (.aload_n 0, 1) := by decide +kernel
theorem dX9_findsFan_92 : decode cX9_findsFan 92 = .ok (.getfield 7, 3) := by decide +kernel
theorem dX9_findsFan_95 : decode cX9_findsFan 95 = .ok (.iconst 3, 1) := by decide +kernel
theorem dX9_findsFan_96 : decode cX9_findsFan 96 = .ok (.dup2, 1) := by decide +kernel
theorem dX9_findsFan_97 : decode cX9_findsFan 97 = .ok (.iaload, 1) := by decide +kernel
theorem dX9_findsFan_98 : decode cX9_findsFan 98 = .ok (.iconst 1, 1) := by decide +kernel
theorem dX9_findsFan_99 : decode cX9_findsFan 99 = .ok (.iadd, 1) := by decide +kernel
theorem dX9_findsFan_100 : decode cX9_findsFan 100 = .ok (.iastore, 1) := by decide +kernel
theorem dX9_findsFan_101 : decode cX9_findsFan 101 = .ok (.aload_n 0, 1) := by decide +kernel
theorem dX9_findsFan_102 : decode cX9_findsFan 102 = .ok (.iload_n 1, 1) := by decide +kernel
theorem dX9_findsFan_103 : decode cX9_findsFan 103 = .ok (.iload_n 2, 1) := by decide +kernel
theorem dX9_findsFan_104 : decode cX9_findsFan 104 = .ok (.invokevirtual 417, 3) := by decide +kernel
theorem dX9_findsFan_107 : decode cX9_findsFan 107 = .ok (.iload_n 3, 1) := by decide +kernel
theorem dX9_findsFan_108 : decode cX9_findsFan 108 = .ok (.if_icmp .ne 7, 3) := by decide +kernel
theorem dX9_findsFan_111 : decode cX9_findsFan 111 = .ok (.iconst 1, 1) := by decide +kernel
theorem dX9_findsFan_112 : decode cX9_findsFan 112 = .ok (.goto 4, 3) := by decide +kernel
theorem dX9_findsFan_115 : decode cX9_findsFan 115 = .ok (.iconst 0, 1) := by decide +kernel
theorem dX9_findsFan_116 : decode cX9_findsFan 116 = .ok (.istore 5, 2) := by decide +kernel
theorem dX9_findsFan_118 : decode cX9_findsFan 118 = .ok (.aload_n 0, 1) := by decide +kernel
theorem dX9_findsFan_119 : decode cX9_findsFan 119 = .ok (.getfield 7, 3) := by decide +kernel
theorem dX9_findsFan_122 : decode cX9_findsFan 122 = .ok (.iconst 3, 1) := by decide +kernel
theorem dX9_findsFan_123 : decode cX9_findsFan 123 = .ok (.dup2, 1) := by decide +kernel
theorem dX9_findsFan_124 : decode cX9_findsFan 124 = .ok (.iaload, 1) := by decide +kernel
theorem dX9_findsFan_125 : decode cX9_findsFan 125 = .ok (.iconst 1, 1) := by decide +kernel
theorem dX9_findsFan_126 : decode cX9_findsFan 126 = .ok (.isub, 1) := by decide +kernel
theorem dX9_findsFan_127 : decode cX9_findsFan 127 = .ok (.iastore, 1) := by decide +kernel
theorem dX9_findsFan_128 : decode cX9_findsFan 128 = .ok (.aload_n 0, 1) := by decide +kernel
theorem dX9_findsFan_129 : decode cX9_findsFan 129 = .ok (.iload 6, 2) := by decide +kernel
theorem dX9_findsFan_131 : decode cX9_findsFan 131 = .ok (.putfield 444, 3) := by decide +kernel
theorem dX9_findsFan_134 : decode cX9_findsFan 134 = .ok (.aload_n 0, 1) := by decide +kernel
theorem dX9_findsFan_135 : decode cX9_findsFan 135 = .ok (.iload 7, 2) := by decide +kernel
theorem dX9_findsFan_137 : decode cX9_findsFan 137 = .ok (.putfield 447, 3) := by decide +kernel
theorem dX9_findsFan_140 : decode cX9_findsFan 140 = .ok (.aload_n 0, 1) := by decide +kernel
theorem dX9_findsFan_141 : decode cX9_findsFan 141 = .ok (.iload 8, 2) := by decide +kernel
theorem dX9_findsFan_143 : decode cX9_findsFan 143 = .ok (.putfield 450, 3) := by decide +kernel
theorem dX9_findsFan_146 : decode cX9_findsFan 146 = .ok (.iinc 8 1, 3) := by decide +kernel
theorem dX9_findsFan_149 : decode cX9_findsFan 149 = .ok (.goto (-105), 3) := by decide +kernel
theorem dX9_findsFan_152 : decode cX9_findsFan 152 = .ok (.iinc 7 1, 3) := by decide +kernel
theorem dX9_findsFan_155 : decode cX9_findsFan 155 = .ok (.goto (-126), 3) := by decide +kernel
theorem dX9_findsFan_158 : decode cX9_findsFan 158 = .ok (.iinc 6 1, 3) := by decide +kernel
theorem dX9_findsFan_161 : decode cX9_findsFan 161 = .ok (.goto (-147), 3) := by decide +kernel
theorem dX9_findsFan_164 : decode cX9_findsFan 164 = .ok (.iload 5, 2) := by decide +kernel
theorem dX9_findsFan_166 : decode cX9_findsFan 166 = .ok (.ireturn, 1) := by decide +kernel
theorem dX9_fanned_0 : decode cX9_fanned 0 = .ok (.aload_n 0, 1) := by decide +kernel
theorem dX9_fanned_1 : decode cX9_fanned 1 = .ok (.iload_n 1, 1) := by decide +kernel
theorem dX9_fanned_2 : decode cX9_fanned 2 = .ok (.iload_n 2, 1) := by decide +kernel
theorem dX9_fanned_3 : decode cX9_fanned 3 = .ok (.bipush 10, 2) := by decide +kernel
theorem dX9_fanned_5 : decode cX9_fanned 5 = .ok (.invokevirtual 413, 3) := by decide +kernel
theorem dX9_fanned_8 : decode cX9_fanned 8 = .ok (.ifCond .eq 26, 3) := by decide +kernel
theorem dX9_fanned_11 : decode cX9_fanned 11 = .ok (.aload_n 0, 1) := by decide +kernel
theorem dX9_fanned_12 : decode cX9_fanned 12 = .ok (.iload_n 3, 1) := by decide +kernel
theorem dX9_fanned_13 : decode cX9_fanned 13 = .ok (.iload 4, 2) := by decide +kernel
theorem dX9_fanned_15 : decode cX9_fanned 15 = .ok (.invokevirtual 150, 3) := by decide +kernel
theorem dX9_fanned_18 : decode cX9_fanned 18 = .ok (.ifCond .eq 16, 3) := by decide +kernel
theorem dX9_fanned_21 : decode cX9_fanned 21 = .ok (.iload 5, 2) := by decide +kernel
theorem dX9_fanned_23 : decode cX9_fanned 23 = .ok (.i2l, 1) := by decide +kernel
theorem dX9_fanned_24 : decode cX9_fanned 24 = .ok (.lconst 0, 1) := by decide +kernel
theorem dX9_fanned_25 : decode cX9_fanned 25 = .ok (.ldc2_w 453, 3) := by decide +kernel
theorem dX9_fanned_28 : decode cX9_fanned 28 = .ok (.invokestatic 146, 3) := by decide +kernel
theorem dX9_fanned_31 : decode cX9_fanned 31 = .ok (.ifCond .ne 5, 3) := by decide +kernel
theorem dX9_fanned_34 : decode cX9_fanned 34 = .ok (.iconst (-1), 1) := by decide +kernel
theorem dX9_fanned_35 : decode cX9_fanned 35 = .ok (.ireturn, 1) := by decide +kernel
theorem dX9_fanned_36 : decode cX9_fanned 36 = .ok (.aload_n 0, 1) := by decide +kernel
theorem dX9_fanned_37 : decode cX9_fanned 37 = .ok (.iload_n 1, 1) := by decide +kernel
theorem dX9_fanned_38 : decode cX9_fanned 38 = .ok (.iload_n 2, 1) := by decide +kernel
theorem dX9_fanned_39 : decode cX9_fanned 39 = .ok (.bipush 10, 2) := by decide +kernel
theorem dX9_fanned_41 : decode cX9_fanned 41 = .ok (.iload 4, 2) := by decide +kernel
theorem dX9_fanned_43 : decode cX9_fanned 43 = .ok (.imul, 1) := by decide +kernel
theorem dX9_fanned_44 : decode cX9_fanned 44 = .ok (.iload_n 3, 1) := by decide +kernel
theorem dX9_fanned_45 : decode cX9_fanned 45 = .ok (.iadd, 1) := by decide +kernel
theorem dX9_fanned_46 : decode cX9_fanned 46 = .ok (.invokevirtual 455, 3) := by decide +kernel
theorem dX9_fanned_49 : decode cX9_fanned 49 = .ok (.ifCond .ne 6, 3) := by decide +kernel
theorem dX9_fanned_52 : decode cX9_fanned 52 = .ok (.bipush (-2), 2) := by decide +kernel
theorem dX9_fanned_54 : decode cX9_fanned 54 = .ok (.ireturn, 1) := by decide +kernel
theorem dX9_fanned_55 : decode cX9_fanned 55 = .ok (.iload 5, 2) := by decide +kernel
theorem dX9_fanned_57 : decode cX9_fanned 57 = .ok (.ifCond .ne 10, 3) := by decide +kernel
theorem dX9_fanned_60 : decode cX9_fanned 60 = .ok (.aload_n 0, 1) := by decide +kernel
theorem dX9_fanned_61 : decode cX9_fanned 61 = .ok (.getfield 444, 3) := by decide +kernel
theorem dX9_fanned_64 : decode cX9_fanned 64 = .ok (.goto 27, 3) := by decide +kernel
theorem dX9_fanned_67 : decode cX9_fanned 67 = .ok (.iload 5, 2) := by decide +kernel
theorem dX9_fanned_69 : decode cX9_fanned 69 = .ok (.iconst 3, 1) := by decide +kernel
theorem dX9_fanned_70 : decode cX9_fanned 70 = .ok (.if_icmp .ne 10, 3) := by decide +kernel
theorem dX9_fanned_73 : decode cX9_fanned 73 = .ok (.aload_n 0, 1) := by decide +kernel
theorem dX9_fanned_74 : decode cX9_fanned 74 = .ok (.getfield 450, 3) := by decide +kernel
theorem dX9_fanned_77 : decode cX9_fanned 77 = .ok (.goto 14, 3) := by decide +kernel
theorem dX9_fanned_80 : decode cX9_fanned 80 = .ok (.aload_n 0, 1) := by decide +kernel
theorem dX9_fanned_81 : decode cX9_fanned 81 = .ok (.getfield 447, 3) := by decide +kernel
theorem dX9_fanned_84 : decode cX9_fanned 84 = .ok (.iload 5, 2) := by decide +kernel
theorem dX9_fanned_86 : decode cX9_fanned 86 = .ok (.iconst 1, 1) := by decide +kernel
theorem dX9_fanned_87 : decode cX9_fanned 87 = .ok (.isub, 1) := by decide +kernel
theorem dX9_fanned_88 : decode cX9_fanned 88 = .ok (.invokestatic 420, 3) := by decide +kernel
theorem dX9_fanned_91 : decode cX9_fanned 91 = .ok (.ireturn, 1) := by decide +kernel
theorem dX9_span_0 : decode cX9_span 0 = .ok (.aload_n 0, 1) := by decide +kernel
theorem dX9_span_1 : decode cX9_span 1 = .ok (.iload_n 1, 1) := by decide +kernel
theorem dX9_span_2 : decode cX9_span 2 = .ok (.iload_n 2, 1) := by decide +kernel
theorem dX9_span_3 : decode cX9_span 3 = .ok (.bipush 60, 2) := by decide +kernel
theorem dX9_span_5 : decode cX9_span 5 = .ok (.invokevirtual 413, 3) := by decide +kernel
theorem dX9_span_8 : decode cX9_span 8 = .ok (.ifCond .eq 37, 3) := by decide +kernel
theorem dX9_span_11 : decode cX9_span 11 = .ok (.aload_n 0, 1) := by decide +kernel
theorem dX9_span_12 : decode cX9_span 12 = .ok (.iload_n 3, 1) := by decide +kernel
theorem dX9_span_13 : decode cX9_span 13 = .ok (.invokevirtual 359, 3) := by decide +kernel
theorem dX9_span_16 : decode cX9_span 16 = .ok (.ifCond .eq 29, 3) := by decide +kernel
theorem dX9_span_19 : decode cX9_span 19 = .ok (.iload 4, 2) := by decide +kernel
theorem dX9_span_21 : decode cX9_span 21 = .ok (.i2l, 1) := by decide +kernel
theorem dX9_span_22 : decode cX9_span 22 = .ok (.lconst 0, 1) := by decide +kernel
theorem dX9_span_23 : decode cX9_span 23 = .ok (.ldc2_w 458, 3) := by decide +kernel
theorem dX9_span_26 : decode cX9_span 26 = .ok (.invokestatic 146, 3) := by decide +kernel
theorem dX9_span_29 : decode cX9_span 29 = .ok (.ifCond .eq 16, 3) := by decide +kernel
theorem dX9_span_32 : decode cX9_span 32 = .ok (.iload 5, 2) := by decide +kernel
theorem dX9_span_34 : decode cX9_span 34 = .ok (.i2l, 1) := by decide +kernel
theorem dX9_span_35 : decode cX9_span 35 = .ok (.lconst 0, 1) := by decide +kernel
theorem dX9_span_36 : decode cX9_span 36 = .ok (.ldc2_w 460, 3) := by decide +kernel
theorem dX9_span_39 : decode cX9_span 39 = .ok (.invokestatic 146, 3) := by decide +kernel
theorem dX9_span_42 : decode cX9_span 42 = .ok (.ifCond .ne 5, 3) := by decide +kernel
theorem dX9_span_45 : decode cX9_span 45 = .ok (.iconst (-1), 1) := by decide +kernel
theorem dX9_span_46 : decode cX9_span 46 = .ok (.ireturn, 1) := by decide +kernel
theorem dX9_span_47 : decode cX9_span 47 = .ok (.iconst 0, 1) := by decide +kernel
theorem dX9_span_48 : decode cX9_span 48 = .ok (.istore 6, 2) := by decide +kernel
theorem dX9_span_50 : decode cX9_span 50 = .ok (.iload 6, 2) := by decide +kernel
theorem dX9_span_52 : decode cX9_span 52 = .ok (.bipush 80, 2) := by decide +kernel
theorem dX9_span_54 : decode cX9_span 54 = .ok (.if_icmp .ge 17, 3) := by decide +kernel
theorem dX9_span_57 : decode cX9_span 57 = .ok (.aload_n 0, 1) := by decide +kernel
theorem dX9_span_58 : decode cX9_span 58 = .ok (.getfield 130, 3) := by decide +kernel
theorem dX9_span_61 : decode cX9_span 61 = .ok (.iload 6, 2) := by decide +kernel
theorem dX9_span_63 : decode cX9_span 63 = .ok (.iconst 0, 1) := by decide +kernel
theorem dX9_span_64 : decode cX9_span 64 = .ok (.bastore, 1) := by decide +kernel
theorem dX9_span_65 : decode cX9_span 65 = .ok (.iinc 6 1, 3) := by decide +kernel
theorem dX9_span_68 : decode cX9_span 68 = .ok (.goto (-18), 3) := by decide +kernel
theorem dX9_span_71 : decode cX9_span 71 = .ok (.aload_n 0, 1) := by decide +kernel
theorem dX9_span_72 : decode cX9_span 72 = .ok (.getfield 19, 3) := by decide +kernel
theorem dX9_span_75 : decode cX9_span 75 = .ok (.iload_n 3, 1) := by decide +kernel
theorem dX9_span_76 : decode cX9_span 76 = .ok (.iaload, 1) := by decide +kernel
theorem dX9_span_77 : decode cX9_span 77 = .ok (.istore 6, 2) := by decide +kernel
theorem dX9_span_79 : decode cX9_span 79 = .ok (.iload 6, 2) := by decide +kernel
theorem dX9_span_81 : decode cX9_span 81 = .ok (.iload 4, 2) := by decide +kernel
theorem dX9_span_83 : decode cX9_span 83 = .ok (.if_icmp .le 11, 3) := by decide +kernel
theorem dX9_span_86 : decode cX9_span 86 = .ok (.iload 6, 2) := by decide +kernel
theorem dX9_span_88 : decode cX9_span 88 = .ok (.iload 4, 2) := by decide +kernel
theorem dX9_span_90 : decode cX9_span 90 = .ok (.isub, 1) := by decide +kernel
theorem dX9_span_91 : decode cX9_span 91 = .ok (.goto 4, 3) := by decide +kernel
theorem dX9_span_94 : decode cX9_span 94 = .ok (.iconst 0, 1) := by decide +kernel
theorem dX9_span_95 : decode cX9_span 95 = .ok (.istore 7, 2) := by decide +kernel
theorem dX9_span_97 : decode cX9_span 97 = .ok (.iload 7, 2) := by decide +kernel
theorem dX9_span_99 : decode cX9_span 99 = .ok (.iload 6, 2) := by decide +kernel
theorem dX9_span_101 : decode cX9_span 101 = .ok (.iload 4, 2) := by decide +kernel
theorem dX9_span_103 : decode cX9_span 103 = .ok (.iadd, 1) := by decide +kernel
theorem dX9_span_104 : decode cX9_span 104 = .ok (.if_icmp .gt 36, 3) := by decide +kernel
theorem dX9_span_107 : decode cX9_span 107 = .ok (.iload 7, 2) := by decide +kernel
theorem dX9_span_109 : decode cX9_span 109 = .ok (.bipush 99, 2) := by decide +kernel
theorem dX9_span_111 : decode cX9_span 111 = .ok (.if_icmp .gt 29, 3) := by decide +kernel
theorem dX9_span_114 : decode cX9_span 114 = .ok (.aload_n 0, 1) := by decide +kernel
theorem dX9_span_115 : decode cX9_span 115 = .ok (.getfield 19, 3) := by decide +kernel
theorem dX9_span_118 : decode cX9_span 118 = .ok (.iload_n 3, 1) := by decide +kernel
theorem dX9_span_119 : decode cX9_span 119 = .ok (.iload 7, 2) := by decide +kernel
theorem dX9_span_121 : decode cX9_span 121 = .ok (.iastore, 1) := by decide +kernel
theorem dX9_span_122 : decode cX9_span 122 = .ok (.aload_n 0, 1) := by decide +kernel
theorem dX9_span_123 : decode cX9_span 123 = .ok (.getfield 130, 3) := by decide +kernel
theorem dX9_span_126 : decode cX9_span 126 = .ok (.aload_n 0, 1) := by decide +kernel
theorem dX9_span_127 : decode cX9_span 127 = .ok (.iload_n 1, 1) := by decide +kernel
theorem dX9_span_128 : decode cX9_span 128 = .ok (.iload_n 2, 1) := by decide +kernel
theorem dX9_span_129 : decode cX9_span 129 = .ok (.invokevirtual 417, 3) := by decide +kernel
theorem dX9_span_132 : decode cX9_span 132 = .ok (.iconst 1, 1) := by decide +kernel
theorem dX9_span_133 : decode cX9_span 133 = .ok (.bastore, 1) := by decide +kernel
theorem dX9_span_134 : decode cX9_span 134 = .ok (.iinc 7 1, 3) := by decide +kernel
theorem dX9_span_137 : decode cX9_span 137 = .ok (.goto (-40), 3) := by decide +kernel
theorem dX9_span_140 : decode cX9_span 140 = .ok (.aload_n 0, 1) := by decide +kernel
theorem dX9_span_141 : decode cX9_span 141 = .ok (.getfield 19, 3) := by decide +kernel
theorem dX9_span_144 : decode cX9_span 144 = .ok (.iload_n 3, 1) := by decide +kernel
theorem dX9_span_145 : decode cX9_span 145 = .ok (.iload 6, 2) := by decide +kernel
theorem dX9_span_147 : decode cX9_span 147 = .ok (.iastore, 1) := by decide +kernel
theorem dX9_span_148 : decode cX9_span 148 = .ok (.iconst 0, 1) := by decide +kernel
theorem dX9_span_149 : decode cX9_span 149 = .ok (.istore 7, 2) := by decide +kernel
theorem dX9_span_151 : decode cX9_span 151 = .ok (.bipush 80, 2) := by decide +kernel
theorem dX9_span_153 : decode cX9_span 153 = .ok (.istore 8, 2) := by decide +kernel
theorem dX9_span_155 : decode cX9_span 155 = .ok (.iconst (-1), 1) := by decide +kernel
theorem dX9_span_156 : decode cX9_span 156 = .ok (.istore 9, 2) := by decide +kernel
theorem dX9_span_158 : decode cX9_span 158 = .ok (.iconst 0, 1) := by decide +kernel
theorem dX9_span_159 : decode cX9_span 159 = .ok (.istore 10, 2) := by decide +kernel
theorem dX9_span_161 : decode cX9_span 161 = .ok (.iload 10, 2) := by decide +kernel
theorem dX9_span_163 : decode cX9_span 163 = .ok (.bipush 80, 2) := by decide +kernel
theorem dX9_span_165 : decode cX9_span 165 = .ok (.if_icmp .ge 72, 3) := by decide +kernel
theorem dX9_span_168 : decode cX9_span 168 = .ok (.aload_n 0, 1) := by decide +kernel
theorem dX9_span_169 : decode cX9_span 169 = .ok (.getfield 130, 3) := by decide +kernel
theorem dX9_span_172 : decode cX9_span 172 = .ok (.iload 10, 2) := by decide +kernel
theorem dX9_span_174 : decode cX9_span 174 = .ok (.baload, 1) := by decide +kernel
theorem dX9_span_175 : decode cX9_span 175 = .ok (.ifCond .eq 56, 3) := by decide +kernel
theorem dX9_span_178 : decode cX9_span 178 = .ok (.iload 10, 2) := by decide +kernel
theorem dX9_span_180 : decode cX9_span 180 = .ok (.iload 5, 2) := by decide +kernel
theorem dX9_span_182 : decode cX9_span 182 = .ok (.iconst 2, 1) := by decide +kernel
theorem dX9_span_183 : decode cX9_span 183 = .ok (.if_icmp .ge 7, 3) := by decide +kernel
theorem dX9_span_186 : decode cX9_span 186 = .ok (.iconst 0, 1) := by decide +kernel
theorem dX9_span_187 : decode cX9_span 187 = .ok (.goto 4, 3) := by decide +kernel
theorem dX9_span_190 : decode cX9_span 190 = .ok (.iconst 1, 1) := by decide +kernel
theorem dX9_span_191 : decode cX9_span 191 = .ok (.invokestatic 420, 3) := by decide +kernel
theorem dX9_span_194 : decode cX9_span 194 = .ok (.istore 11, 2) := by decide +kernel
theorem dX9_span_196 : decode cX9_span 196 = .ok (.iload 11, 2) := by decide +kernel
theorem dX9_span_198 : decode cX9_span 198 = .ok (.iload 8, 2) := by decide +kernel
theorem dX9_span_200 : decode cX9_span 200 = .ok (.if_icmp .ge 8, 3) := by decide +kernel
theorem dX9_span_203 : decode cX9_span 203 = .ok (.iload 11, 2) := by decide +kernel
theorem dX9_span_205 : decode cX9_span 205 = .ok (.goto 5, 3) := by decide +kernel
theorem dX9_span_208 : decode cX9_span 208 = .ok (.iload 8, 2) := by decide +kernel
theorem dX9_span_210 : decode cX9_span 210 = .ok (.istore 8, 2) := by decide +kernel
theorem dX9_span_212 : decode cX9_span 212 = .ok (.iload 11, 2) := by decide +kernel
theorem dX9_span_214 : decode cX9_span 214 = .ok (.iload 9, 2) := by decide +kernel
theorem dX9_span_216 : decode cX9_span 216 = .ok (.if_icmp .le 8, 3) := by decide +kernel
theorem dX9_span_219 : decode cX9_span 219 = .ok (.iload 11, 2) := by decide +kernel
theorem dX9_span_221 : decode cX9_span 221 = .ok (.goto 5, 3) := by decide +kernel
theorem dX9_span_224 : decode cX9_span 224 = .ok (.iload 9, 2) := by decide +kernel
theorem dX9_span_226 : decode cX9_span 226 = .ok (.istore 9, 2) := by decide +kernel
theorem dX9_span_228 : decode cX9_span 228 = .ok (.iinc 7 1, 3) := by decide +kernel
theorem dX9_span_231 : decode cX9_span 231 = .ok (.iinc 10 1, 3) := by decide +kernel
theorem dX9_span_234 : decode cX9_span 234 = .ok (.goto (-73), 3) := by decide +kernel
theorem dX9_span_237 : decode cX9_span 237 = .ok (.iload 5, 2) := by decide +kernel
theorem dX9_span_239 : decode cX9_span 239 = .ok (.iconst 4, 1) := by decide +kernel
theorem dX9_span_240 : decode cX9_span 240 = .ok (.if_icmp .ne 8, 3) := by decide +kernel
theorem dX9_span_243 : decode cX9_span 243 = .ok (.iload 7, 2) := by decide +kernel
theorem dX9_span_245 : decode cX9_span 245 = .ok (.goto 17, 3) := by decide +kernel
theorem dX9_span_248 : decode cX9_span 248 = .ok (.iload 5, 2) := by decide +kernel
theorem dX9_span_250 : decode cX9_span 250 = .ok (.iconst 2, 1) := by decide +kernel
theorem dX9_span_251 : decode cX9_span 251 = .ok (.irem, 1) := by decide +kernel
theorem dX9_span_252 : decode cX9_span 252 = .ok (.ifCond .ne 8, 3) := by decide +kernel
theorem dX9_span_255 : decode cX9_span 255 = .ok (.iload 8, 2) := by decide +kernel
theorem dX9_span_257 : decode cX9_span 257 = .ok (.goto 5, 3) := by decide +kernel
theorem dX9_span_260 : decode cX9_span 260 = .ok (.iload 9, 2) := by decide +kernel
theorem dX9_span_262 : decode cX9_span 262 = .ok (.ireturn, 1) := by decide +kernel
theorem dX9_heardAt_0 : decode cX9_heardAt 0 = .ok (.iconst 0, 1) := by decide +kernel
theorem dX9_heardAt_1 : decode cX9_heardAt 1 = .ok (.istore_n 2, 1) := by decide +kernel
theorem dX9_heardAt_2 : decode cX9_heardAt 2 = .ok (.iconst 0, 1) := by decide +kernel
theorem dX9_heardAt_3 : decode cX9_heardAt 3 = .ok (.istore_n 3, 1) := by decide +kernel
theorem dX9_heardAt_4 : decode cX9_heardAt 4 = .ok (.iload_n 3, 1) := by decide +kernel
theorem dX9_heardAt_5 : decode cX9_heardAt 5 = .ok (.aload_n 0, 1) := by decide +kernel
theorem dX9_heardAt_6 : decode cX9_heardAt 6 = .ok (.getfield 7, 3) := by decide +kernel
theorem dX9_heardAt_9 : decode cX9_heardAt 9 = .ok (.iconst 2, 1) := by decide +kernel
theorem dX9_heardAt_10 : decode cX9_heardAt 10 = .ok (.iaload, 1) := by decide +kernel
theorem dX9_heardAt_11 : decode cX9_heardAt 11 = .ok (.if_icmp .ge 94, 3) := by decide +kernel
theorem dX9_heardAt_14 : decode cX9_heardAt 14 = .ok (.aload_n 0, 1) := by decide +kernel
theorem dX9_heardAt_15 : decode cX9_heardAt 15 = .ok (.iload_n 3, 1) := by decide +kernel
theorem dX9_heardAt_16 : decode cX9_heardAt 16 = .ok (.invokevirtual 359, 3) := by decide +kernel
theorem dX9_heardAt_19 : decode cX9_heardAt 19 = .ok (.ifCond .eq 47, 3) := by decide +kernel
theorem dX9_heardAt_22 : decode cX9_heardAt 22 = .ok (.aload_n 0, 1) := by decide +kernel
theorem dX9_heardAt_23 : decode cX9_heardAt 23 = .ok (.getfield 16, 3) := by decide +kernel
theorem dX9_heardAt_26 : decode cX9_heardAt 26 = .ok (.iload_n 3, 1) := by decide +kernel
theorem dX9_heardAt_27 : decode cX9_heardAt 27 = .ok (.iaload, 1) := by decide +kernel
theorem dX9_heardAt_28 : decode cX9_heardAt 28 = .ok (.bipush 10, 2) := by decide +kernel
theorem dX9_heardAt_30 : decode cX9_heardAt 30 = .ok (.irem, 1) := by decide +kernel
theorem dX9_heardAt_31 : decode cX9_heardAt 31 = .ok (.iload_n 1, 1) := by decide +kernel
theorem dX9_heardAt_32 : decode cX9_heardAt 32 = .ok (.bipush 10, 2) := by decide +kernel
theorem dX9_heardAt_34 : decode cX9_heardAt 34 = .ok (.irem, 1) := by decide +kernel
theorem dX9_heardAt_35 : decode cX9_heardAt 35 = .ok (.invokestatic 437, 3) := by decide +kernel
theorem dX9_heardAt_38 : decode cX9_heardAt 38 = .ok (.iconst 2, 1) := by decide +kernel
theorem dX9_heardAt_39 : decode cX9_heardAt 39 = .ok (.if_icmp .gt 27, 3) := by decide +kernel
theorem dX9_heardAt_42 : decode cX9_heardAt 42 = .ok (.aload_n 0, 1) := by decide +kernel
theorem dX9_heardAt_43 : decode cX9_heardAt 43 = .ok (.getfield 16, 3) := by decide +kernel
theorem dX9_heardAt_46 : decode cX9_heardAt 46 = .ok (.iload_n 3, 1) := by decide +kernel
theorem dX9_heardAt_47 : decode cX9_heardAt 47 = .ok (.iaload, 1) := by decide +kernel
theorem dX9_heardAt_48 : decode cX9_heardAt 48 = .ok (.bipush 10, 2) := by decide +kernel
theorem dX9_heardAt_50 : decode cX9_heardAt 50 = .ok (.idiv, 1) := by decide +kernel
theorem dX9_heardAt_51 : decode cX9_heardAt 51 = .ok (.iload_n 1, 1) := by decide +kernel
theorem dX9_heardAt_52 : decode cX9_heardAt 52 = .ok (.bipush 10, 2) := by decide +kernel
theorem dX9_heardAt_54 : decode cX9_heardAt 54 = .ok (.idiv, 1) := by decide +kernel
theorem dX9_heardAt_55 : decode cX9_heardAt 55 = .ok (.invokestatic 437, 3) := by decide +kernel
theorem dX9_heardAt_58 : decode cX9_heardAt 58 = .ok (.iconst 2, 1) := by decide +kernel
theorem dX9_heardAt_59 : decode cX9_heardAt 59 = .ok (.if_icmp .gt 7, 3) := by decide +kernel
theorem dX9_heardAt_62 : decode cX9_heardAt 62 = .ok (.iconst 1, 1) := by decide +kernel
theorem dX9_heardAt_63 : decode cX9_heardAt 63 = .ok (.goto 4, 3) := by decide +kernel
theorem dX9_heardAt_66 : decode cX9_heardAt 66 = .ok (.iconst 0, 1) := by decide +kernel
theorem dX9_heardAt_67 : decode cX9_heardAt 67 = .ok (.istore 4, 2) := by decide +kernel
theorem dX9_heardAt_69 : decode cX9_heardAt 69 = .ok (.iload_n 2, 1) := by decide +kernel
theorem dX9_heardAt_70 : decode cX9_heardAt 70 = .ok (.iload 4, 2) := by decide +kernel
theorem dX9_heardAt_72 : decode cX9_heardAt 72 = .ok (.ifCond .eq 24, 3) := by decide +kernel
theorem dX9_heardAt_75 : decode cX9_heardAt 75 = .ok (.aload_n 0, 1) := by decide +kernel
theorem dX9_heardAt_76 : decode cX9_heardAt 76 = .ok (.getfield 16, 3) := by decide +kernel
theorem dX9_heardAt_79 : decode cX9_heardAt 79 = .ok (.iload_n 3, 1) := by decide +kernel
theorem dX9_heardAt_80 : decode cX9_heardAt 80 = .ok (.iaload, 1) := by decide +kernel
theorem dX9_heardAt_81 : decode cX9_heardAt 81 = .ok (.aload_n 0, 1) := by decide +kernel
theorem dX9_heardAt_82 : decode cX9_heardAt 82 = .ok (.getfield 7, 3) := by decide +kernel
theorem dX9_heardAt_85 : decode cX9_heardAt 85 = .ok (.iconst 5, 1) := by decide +kernel
theorem dX9_heardAt_86 : decode cX9_heardAt 86 = .ok (.iaload, 1) := by decide +kernel
theorem dX9_heardAt_87 : decode cX9_heardAt 87 = .ok (.if_icmp .eq 9, 3) := by decide +kernel
theorem dX9_heardAt_90 : decode cX9_heardAt 90 = .ok (.iconst 1, 1) := by decide +kernel
theorem dX9_heardAt_91 : decode cX9_heardAt 91 = .ok (.iload_n 3, 1) := by decide +kernel
theorem dX9_heardAt_92 : decode cX9_heardAt 92 = .ok (.ishl, 1) := by decide +kernel
theorem dX9_heardAt_93 : decode cX9_heardAt 93 = .ok (.goto 4, 3) := by decide +kernel
theorem dX9_heardAt_96 : decode cX9_heardAt 96 = .ok (.iconst 0, 1) := by decide +kernel
theorem dX9_heardAt_97 : decode cX9_heardAt 97 = .ok (.ior, 1) := by decide +kernel
theorem dX9_heardAt_98 : decode cX9_heardAt 98 = .ok (.istore_n 2, 1) := by decide +kernel
theorem dX9_heardAt_99 : decode cX9_heardAt 99 = .ok (.iinc 3 1, 3) := by decide +kernel
theorem dX9_heardAt_102 : decode cX9_heardAt 102 = .ok (.goto (-98), 3) := by decide +kernel
theorem dX9_heardAt_105 : decode cX9_heardAt 105 = .ok (.iload_n 2, 1) := by decide +kernel
theorem dX9_heardAt_106 : decode cX9_heardAt 106 = .ok (.ireturn, 1) := by decide +kernel
theorem dX9_findsPhrase_0 : decode cX9_findsPhrase 0 = .ok (.iconst 0, 1) := by decide +kernel
theorem dX9_findsPhrase_1 : decode cX9_findsPhrase 1 = .ok (.istore_n 3, 1) := by decide +kernel
theorem dX9_findsPhrase_2 : decode cX9_findsPhrase 2 = .ok (.iload_n 3, 1) := by decide +kernel
theorem dX9_findsPhrase_3 : decode cX9_findsPhrase 3 = .ok (.bipush 80, 2) := by decide +kernel
theorem dX9_findsPhrase_5 : decode cX9_findsPhrase 5 = .ok (.if_icmp .ge 55, 3) := by decide +kernel
theorem dX9_findsPhrase_8 : decode cX9_findsPhrase 8 = .ok (.aload_n 0, 1) := by decide +kernel
theorem dX9_findsPhrase_9 : decode cX9_findsPhrase 9 = .ok (.iload_n 3, 1) := by decide +kernel
theorem dX9_findsPhrase_10 : decode cX9_findsPhrase 10 = .ok (.invokevirtual 370, 3) := by decide +kernel
theorem dX9_findsPhrase_13 : decode cX9_findsPhrase 13 = .ok (.ifCond .eq 41, 3) := by decide +kernel
theorem dX9_findsPhrase_16 : decode cX9_findsPhrase 16 = .ok (.aload_n 0, 1) := by decide +kernel
theorem dX9_findsPhrase_17 : decode cX9_findsPhrase 17 = .ok (.iload_n 3, 1) := by decide +kernel
theorem dX9_findsPhrase_18 : decode cX9_findsPhrase 18 = .ok (.invokevirtual 354, 3) := by decide +kernel
theorem dX9_findsPhrase_21 : decode cX9_findsPhrase 21 = .ok (.iconst (-1), 1) := by decide +kernel
theorem dX9_findsPhrase_22 : decode cX9_findsPhrase 22 = .ok (.if_icmp .ne 32, 3) := by decide +kernel
theorem dX9_findsPhrase_25 : decode cX9_findsPhrase 25 = .ok (.aload_n 0, 1) := by decide +kernel
theorem dX9_findsPhrase_26 : decode cX9_findsPhrase 26 = .ok (.iload_n 3, 1) := by decide +kernel
theorem dX9_findsPhrase_27 : decode cX9_findsPhrase 27 = .ok (.invokevirtual 462, 3) := by decide +kernel
theorem dX9_findsPhrase_30 : decode cX9_findsPhrase 30 = .ok (.istore 4, 2) := by decide +kernel
theorem dX9_findsPhrase_32 : decode cX9_findsPhrase 32 = .ok (.iload 4, 2) := by decide +kernel
theorem dX9_findsPhrase_34 : decode cX9_findsPhrase 34 = .ok (.iload_n 1, 1) := by decide +kernel
theorem dX9_findsPhrase_35 : decode cX9_findsPhrase 35 = .ok (.iand, 1) := by decide +kernel
theorem dX9_findsPhrase_36 : decode cX9_findsPhrase 36 = .ok (.iload_n 1, 1) := by decide +kernel
theorem dX9_findsPhrase_37 : decode cX9_findsPhrase 37 = .ok (.if_icmp .ne 17, 3) := by decide +kernel
theorem dX9_findsPhrase_40 : decode cX9_findsPhrase 40 = .ok (.iload 4, 2) := by decide +kernel
theorem dX9_findsPhrase_42 : decode cX9_findsPhrase 42 = .ok (.iload_n 2, 1) := by decide +kernel
theorem dX9_findsPhrase_43 : decode cX9_findsPhrase 43 = .ok (.iand, 1) := by decide +kernel
theorem dX9_findsPhrase_44 : decode cX9_findsPhrase 44 = .ok (.ifCond .ne 10, 3) := by decide +kernel
theorem dX9_findsPhrase_47 : decode cX9_findsPhrase 47 = .ok (.aload_n 0, 1) := by decide +kernel
theorem dX9_findsPhrase_48 : decode cX9_findsPhrase 48 = .ok (.iload_n 3, 1) := by decide +kernel
theorem dX9_findsPhrase_49 : decode cX9_findsPhrase 49 = .ok (.putfield 465, 3) := by decide +kernel
theorem dX9_findsPhrase_52 : decode cX9_findsPhrase 52 = .ok (.iconst 1, 1) := by decide +kernel
theorem dX9_findsPhrase_53 : decode cX9_findsPhrase 53 = .ok (.ireturn, 1) := by decide +kernel
theorem dX9_findsPhrase_54 : decode cX9_findsPhrase 54 = .ok (.iinc 3 1, 3) := by decide +kernel
theorem dX9_findsPhrase_57 : decode cX9_findsPhrase 57 = .ok (.goto (-55), 3) := by decide +kernel
theorem dX9_findsPhrase_60 : decode cX9_findsPhrase 60 = .ok (.iconst 0, 1) := by decide +kernel
theorem dX9_findsPhrase_61 : decode cX9_findsPhrase 61 = .ok (.ireturn, 1) := by decide +kernel
theorem dX9_isSet_0 : decode cX9_isSet 0 = .ok (.iload_n 1, 1) := by decide +kernel
theorem dX9_isSet_1 : decode cX9_isSet 1 = .ok (.i2l, 1) := by decide +kernel
theorem dX9_isSet_2 : decode cX9_isSet 2 = .ok (.lconst 0, 1) := by decide +kernel
theorem dX9_isSet_3 : decode cX9_isSet 3 = .ok (.iconst 1, 1) := by decide +kernel
theorem dX9_isSet_4 : decode cX9_isSet 4 = .ok (.aload_n 0, 1) := by decide +kernel
theorem dX9_isSet_5 : decode cX9_isSet 5 = .ok (.getfield 7, 3) := by decide +kernel
theorem dX9_isSet_8 : decode cX9_isSet 8 = .ok (.iconst 2, 1) := by decide +kernel
theorem dX9_isSet_9 : decode cX9_isSet 9 = .ok (.iaload, 1) := by decide +kernel
theorem dX9_isSet_10 : decode cX9_isSet 10 = .ok (.ishl, 1) := by decide +kernel
theorem dX9_isSet_11 : decode cX9_isSet 11 = .ok (.iconst 1, 1) := by decide +kernel
theorem dX9_isSet_12 : decode cX9_isSet 12 = .ok (.isub, 1) := by decide +kernel
theorem dX9_isSet_13 : decode cX9_isSet 13 = .ok (.i2l, 1) := by decide +kernel
theorem dX9_isSet_14 : decode cX9_isSet 14 = .ok (.invokestatic 146, 3) := by decide +kernel
theorem dX9_isSet_17 : decode cX9_isSet 17 = .ok (.ireturn, 1) := by decide +kernel
theorem dX9_spy_0 : decode cX9_spy 0 = .ok (.aload_n 0, 1) := by decide +kernel
theorem dX9_spy_1 : decode cX9_spy 1 = .ok (.iload_n 1, 1) := by decide +kernel
theorem dX9_spy_2 : decode cX9_spy 2 = .ok (.iload_n 2, 1) := by decide +kernel
theorem dX9_spy_3 : decode cX9_spy 3 = .ok (.bipush 30, 2) := by decide +kernel
theorem dX9_spy_5 : decode cX9_spy 5 = .ok (.invokevirtual 413, 3) := by decide +kernel
theorem dX9_spy_8 : decode cX9_spy 8 = .ok (.ifCond .eq 40, 3) := by decide +kernel
theorem dX9_spy_11 : decode cX9_spy 11 = .ok (.aload_n 0, 1) := by decide +kernel
theorem dX9_spy_12 : decode cX9_spy 12 = .ok (.iload_n 3, 1) := by decide +kernel
theorem dX9_spy_13 : decode cX9_spy 13 = .ok (.invokevirtual 468, 3) := by decide +kernel
theorem dX9_spy_16 : decode cX9_spy 16 = .ok (.ifCond .eq 32, 3) := by decide +kernel
theorem dX9_spy_19 : decode cX9_spy 19 = .ok (.aload_n 0, 1) := by decide +kernel
theorem dX9_spy_20 : decode cX9_spy 20 = .ok (.iload 4, 2) := by decide +kernel
theorem dX9_spy_22 : decode cX9_spy 22 = .ok (.invokevirtual 468, 3) := by decide +kernel
theorem dX9_spy_25 : decode cX9_spy 25 = .ok (.ifCond .eq 23, 3) := by decide +kernel
theorem dX9_spy_28 : decode cX9_spy 28 = .ok (.iload_n 3, 1) := by decide +kernel
theorem dX9_spy_29 : decode cX9_spy 29 = .ok (.iload 4, 2) := by decide +kernel
theorem dX9_spy_31 : decode cX9_spy 31 = .ok (.iand, 1) := by decide +kernel
theorem dX9_spy_32 : decode cX9_spy 32 = .ok (.ifCond .ne 16, 3) := by decide +kernel
theorem dX9_spy_35 : decode cX9_spy 35 = .ok (.iload 5, 2) := by decide +kernel
theorem dX9_spy_37 : decode cX9_spy 37 = .ok (.i2l, 1) := by decide +kernel
theorem dX9_spy_38 : decode cX9_spy 38 = .ok (.lconst 0, 1) := by decide +kernel
theorem dX9_spy_39 : decode cX9_spy 39 = .ok (.ldc2_w 432, 3) := by decide +kernel
theorem dX9_spy_42 : decode cX9_spy 42 = .ok (.invokestatic 146, 3) := by decide +kernel
theorem dX9_spy_45 : decode cX9_spy 45 = .ok (.ifCond .ne 5, 3) := by decide +kernel
theorem dX9_spy_48 : decode cX9_spy 48 = .ok (.iconst (-1), 1) := by decide +kernel
theorem dX9_spy_49 : decode cX9_spy 49 = .ok (.ireturn, 1) := by decide +kernel
theorem dX9_spy_50 : decode cX9_spy 50 = .ok (.aload_n 0, 1) := by decide +kernel
theorem dX9_spy_51 : decode cX9_spy 51 = .ok (.invokevirtual 407, 3) := by decide +kernel
theorem dX9_spy_54 : decode cX9_spy 54 = .ok (.iconst 0, 1) := by decide +kernel
theorem dX9_spy_55 : decode cX9_spy 55 = .ok (.istore 6, 2) := by decide +kernel
theorem dX9_spy_57 : decode cX9_spy 57 = .ok (.iconst 1, 1) := by decide +kernel
theorem dX9_spy_58 : decode cX9_spy 58 = .ok (.istore 7, 2) := by decide +kernel
theorem dX9_spy_60 : decode cX9_spy 60 = .ok (.iload 7, 2) := by decide +kernel
theorem dX9_spy_62 : decode cX9_spy 62 = .ok (.iload_n 2, 1) := by decide +kernel
theorem dX9_spy_63 : decode cX9_spy 63 = .ok (.if_icmp .gt 34, 3) := by decide +kernel
theorem dX9_spy_66 : decode cX9_spy 66 = .ok (.iload 6, 2) := by decide +kernel
theorem dX9_spy_68 : decode cX9_spy 68 = .ok (.ifCond .ne 29, 3) := by decide +kernel
theorem dX9_spy_71 : decode cX9_spy 71 = .ok (.aload_n 0, 1) := by decide +kernel
theorem dX9_spy_72 : decode cX9_spy 72 = .ok (.iload_n 1, 1) := by decide +kernel
theorem dX9_spy_73 : decode cX9_spy 73 = .ok (.invokevirtual 405, 3) := by decide +kernel
theorem dX9_spy_76 : decode cX9_spy 76 = .ok (.aload_n 0, 1) := by decide +kernel
theorem dX9_spy_77 : decode cX9_spy 77 = .ok (.iload_n 3, 1) := by decide +kernel
theorem dX9_spy_78 : decode cX9_spy 78 = .ok (.iload 4, 2) := by decide +kernel
theorem dX9_spy_80 : decode cX9_spy 80 = .ok (.invokevirtual 471, 3) := by decide +kernel
theorem dX9_spy_83 : decode cX9_spy 83 = .ok (.istore 6, 2) := by decide +kernel
theorem dX9_spy_85 : decode cX9_spy 85 = .ok (.aload_n 0, 1) := by decide +kernel
theorem dX9_spy_86 : decode cX9_spy 86 = .ok (.iload 7, 2) := by decide +kernel
theorem dX9_spy_88 : decode cX9_spy 88 = .ok (.putfield 474, 3) := by decide +kernel
theorem dX9_spy_91 : decode cX9_spy 91 = .ok (.iinc 7 1, 3) := by decide +kernel
theorem dX9_spy_94 : decode cX9_spy 94 = .ok (.goto (-34), 3) := by decide +kernel
theorem dX9_spy_97 : decode cX9_spy 97 = .ok (.aload_n 0, 1) := by decide +kernel
theorem dX9_spy_98 : decode cX9_spy 98 = .ok (.invokevirtual 410, 3) := by decide +kernel
theorem dX9_spy_101 : decode cX9_spy 101 = .ok (.iload 6, 2) := by decide +kernel
theorem dX9_spy_103 : decode cX9_spy 103 = .ok (.ifCond .ne 8, 3) := by decide +kernel
theorem dX9_spy_106 : decode cX9_spy 106 = .ok (.bipush (-2), 2) := by decide +kernel
theorem dX9_spy_108 : decode cX9_spy 108 = .ok (.goto 26, 3) := by decide +kernel
theorem dX9_spy_111 : decode cX9_spy 111 = .ok (.iload 5, 2) := by decide +kernel
theorem dX9_spy_113 : decode cX9_spy 113 = .ok (.ifCond .ne 10, 3) := by decide +kernel
theorem dX9_spy_116 : decode cX9_spy 116 = .ok (.aload_n 0, 1) := by decide +kernel
theorem dX9_spy_117 : decode cX9_spy 117 = .ok (.getfield 474, 3) := by decide +kernel
theorem dX9_spy_120 : decode cX9_spy 120 = .ok (.goto 14, 3) := by decide +kernel
theorem dX9_spy_123 : decode cX9_spy 123 = .ok (.aload_n 0, 1) := by decide +kernel
theorem dX9_spy_124 : decode cX9_spy 124 = .ok (.getfield 465, 3) := by decide +kernel
theorem dX9_spy_127 : decode cX9_spy 127 = .ok (.iload 5, 2) := by decide +kernel
theorem dX9_spy_129 : decode cX9_spy 129 = .ok (.iconst 1, 1) := by decide +kernel
theorem dX9_spy_130 : decode cX9_spy 130 = .ok (.isub, 1) := by decide +kernel
theorem dX9_spy_131 : decode cX9_spy 131 = .ok (.invokestatic 420, 3) := by decide +kernel
theorem dX9_spy_134 : decode cX9_spy 134 = .ok (.ireturn, 1) := by decide +kernel
theorem dX9_seed_0 : decode cX9_seed 0 = .ok (.iload_n 1, 1) := by decide +kernel
theorem dX9_seed_1 : decode cX9_seed 1 = .ok (.ifCond .ge 5, 3) := by decide +kernel
theorem dX9_seed_4 : decode cX9_seed 4 = .ok (.iconst (-1), 1) := by decide +kernel
theorem dX9_seed_5 : decode cX9_seed 5 = .ok (.ireturn, 1) := by decide +kernel
theorem dX9_seed_6 : decode cX9_seed 6 = .ok (.aload_n 0, 1) := by decide +kernel
theorem dX9_seed_7 : decode cX9_seed 7 = .ok (.getfield 7, 3) := by decide +kernel
theorem dX9_seed_10 : decode cX9_seed 10 = .ok (.bipush 13, 2) := by decide +kernel
theorem dX9_seed_12 : decode cX9_seed 12 = .ok (.iaload, 1) := by decide +kernel
theorem dX9_seed_13 : decode cX9_seed 13 = .ok (.istore_n 2, 1) := by decide +kernel
theorem dX9_seed_14 : decode cX9_seed 14 = .ok (.aload_n 0, 1) := by decide +kernel
theorem dX9_seed_15 : decode cX9_seed 15 = .ok (.getfield 7, 3) := by decide +kernel
theorem dX9_seed_18 : decode cX9_seed 18 = .ok (.bipush 13, 2) := by decide +kernel
theorem dX9_seed_20 : decode cX9_seed 20 = .ok (.iload_n 1, 1) := by decide +kernel
theorem dX9_seed_21 : decode cX9_seed 21 = .ok (.iastore, 1) := by decide +kernel
theorem dX9_seed_22 : decode cX9_seed 22 = .ok (.iload_n 2, 1) := by decide +kernel
theorem dX9_seed_23 : decode cX9_seed 23 = .ok (.ireturn, 1) := by decide +kernel
theorem dX9_draws_0 : decode cX9_draws 0 = .ok (.aload_n 0, 1) := by decide +kernel
theorem dX9_draws_1 : decode cX9_draws 1 = .ok (.getfield 7, 3) := by decide +kernel
theorem dX9_draws_4 : decode cX9_draws 4 = .ok (.bipush 13, 2) := by decide +kernel
theorem dX9_draws_6 : decode cX9_draws 6 = .ok (.aload_n 0, 1) := by decide +kernel
theorem dX9_draws_7 : decode cX9_draws 7 = .ok (.getfield 7, 3) := by decide +kernel
theorem dX9_draws_10 : decode cX9_draws 10 = .ok (.bipush 13, 2) := by decide +kernel
theorem dX9_draws_12 : decode cX9_draws 12 = .ok (.iaload, 1) := by decide +kernel
theorem dX9_draws_13 : decode cX9_draws 13 = .ok (.i2l, 1) := by decide +kernel
theorem dX9_draws_14 : decode cX9_draws 14 = .ok (.ldc2_w 477, 3) := by decide +kernel
theorem dX9_draws_17 : decode cX9_draws 17 = .ok (.lmul, 1) := by decide +kernel
theorem dX9_draws_18 : decode cX9_draws 18 = .ok (.ldc2_w 479, 3) := by decide +kernel
theorem dX9_draws_21 : decode cX9_draws 21 = .ok (.ladd, 1) := by decide +kernel
theorem dX9_draws_22 : decode cX9_draws 22 = .ok (.ldc2_w 481, 3) := by decide +kernel
theorem dX9_draws_25 : decode cX9_draws 25 = .ok (.lrem, 1) := by decide +kernel
theorem dX9_draws_26 : decode cX9_draws 26 = .ok (.l2i, 1) := by decide +kernel
theorem dX9_draws_27 : decode cX9_draws 27 = .ok (.iastore, 1) := by decide +kernel
theorem dX9_draws_28 : decode cX9_draws 28 = .ok (.aload_n 0, 1) := by decide +kernel
theorem dX9_draws_29 : decode cX9_draws 29 = .ok (.getfield 7, 3) := by decide +kernel
theorem dX9_draws_32 : decode cX9_draws 32 = .ok (.bipush 13, 2) := by decide +kernel
theorem dX9_draws_34 : decode cX9_draws 34 = .ok (.iaload, 1) := by decide +kernel
theorem dX9_draws_35 : decode cX9_draws 35 = .ok (.ldc_w 483, 3) := by decide +kernel
theorem dX9_draws_38 : decode cX9_draws 38 = .ok (.idiv, 1) := by decide +kernel
theorem dX9_draws_39 : decode cX9_draws 39 = .ok (.iload_n 1, 1) := by decide +kernel
theorem dX9_draws_40 : decode cX9_draws 40 = .ok (.irem, 1) := by decide +kernel
theorem dX9_draws_41 : decode cX9_draws 41 = .ok (.ireturn, 1) := by decide +kernel
theorem dX9_evenings_0 : decode cX9_evenings 0 = .ok (.aload_n 0, 1) := by decide +kernel
theorem dX9_evenings_1 : decode cX9_evenings 1 = .ok (.iload_n 1, 1) := by decide +kernel
theorem dX9_evenings_2 : decode cX9_evenings 2 = .ok (.iload_n 3, 1) := by decide +kernel
theorem dX9_evenings_3 : decode cX9_evenings 3 = .ok (.bipush 30, 2) := by decide +kernel
theorem dX9_evenings_5 : decode cX9_evenings 5 = .ok (.invokevirtual 413, 3) := by decide +kernel
theorem dX9_evenings_8 : decode cX9_evenings 8 = .ok (.ifCond .eq 41, 3) := by decide +kernel
theorem dX9_evenings_11 : decode cX9_evenings 11 = .ok (.iload_n 3, 1) := by decide +kernel
theorem dX9_evenings_12 : decode cX9_evenings 12 = .ok (.ifCond .eq 37, 3) := by decide +kernel
theorem dX9_evenings_15 : decode cX9_evenings 15 = .ok (.iload_n 2, 1) := by decide +kernel
theorem dX9_evenings_16 : decode cX9_evenings 16 = .ok (.i2l, 1) := by decide +kernel
theorem dX9_evenings_17 : decode cX9_evenings 17 = .ok (.lconst 1, 1) := by decide +kernel
theorem dX9_evenings_18 : decode cX9_evenings 18 = .ok (.ldc2_w 484, 3) := by decide +kernel
theorem dX9_evenings_21 : decode cX9_evenings 21 = .ok (.invokestatic 146, 3) := by decide +kernel
theorem dX9_evenings_24 : decode cX9_evenings 24 = .ok (.ifCond .eq 25, 3) := by decide +kernel
theorem dX9_evenings_27 : decode cX9_evenings 27 = .ok (.aload_n 0, 1) := by decide +kernel
theorem dX9_evenings_28 : decode cX9_evenings 28 = .ok (.iload 4, 2) := by decide +kernel
theorem dX9_evenings_30 : decode cX9_evenings 30 = .ok (.invokevirtual 154, 3) := by decide +kernel
theorem dX9_evenings_33 : decode cX9_evenings 33 = .ok (.ifCond .eq 16, 3) := by decide +kernel
theorem dX9_evenings_36 : decode cX9_evenings 36 = .ok (.iload 5, 2) := by decide +kernel
theorem dX9_evenings_38 : decode cX9_evenings 38 = .ok (.i2l, 1) := by decide +kernel
theorem dX9_evenings_39 : decode cX9_evenings 39 = .ok (.lconst 0, 1) := by decide +kernel
theorem dX9_evenings_40 : decode cX9_evenings 40 = .ok (.ldc2_w 432, 3) := by decide +kernel
theorem dX9_evenings_43 : decode cX9_evenings 43 = .ok (.invokestatic 146, 3) := by decide +kernel
theorem dX9_evenings_46 : decode cX9_evenings 46 = .ok (.ifCond .ne 5, 3) := by decide +kernel
theorem dX9_evenings_49 : decode cX9_evenings 49 = .ok (.iconst (-1), 1) := by decide +kernel
theorem dX9_evenings_50 : decode cX9_evenings 50 = .ok (.ireturn, 1) := by decide +kernel
theorem dX9_evenings_51 : decode cX9_evenings 51 = .ok (.aload_n 0, 1) := by decide +kernel
theorem dX9_evenings_52 : decode cX9_evenings 52 = .ok (.getfield 7, 3) := by decide +kernel
theorem dX9_evenings_55 : decode cX9_evenings 55 = .ok (.bipush 13, 2) := by decide +kernel
theorem dX9_evenings_57 : decode cX9_evenings 57 = .ok (.iaload, 1) := by decide +kernel
theorem dX9_evenings_58 : decode cX9_evenings 58 = .ok (.istore 6, 2) := by decide +kernel
theorem dX9_evenings_60 : decode cX9_evenings 60 = .ok (.iconst 0, 1) := by decide +kernel
theorem dX9_evenings_61 : decode cX9_evenings 61 = .ok (.istore 7, 2) := by decide +kernel
theorem dX9_evenings_63 : decode cX9_evenings 63 = .ok (.aload_n 0, 1) := by decide +kernel
theorem dX9_evenings_64 : decode cX9_evenings 64 = .ok (.getfield 19, 3) := by decide +kernel
theorem dX9_evenings_67 : decode cX9_evenings 67 = .ok (.aload_n 0, 1) := by decide +kernel
theorem dX9_evenings_68 : decode cX9_evenings 68 = .ok (.getfield 134, 3) := by decide +kernel
theorem dX9_evenings_71 : decode cX9_evenings 71 = .ok (.invokestatic 323, 3) := by decide +kernel
theorem dX9_evenings_74 : decode cX9_evenings 74 = .ok (.aload_n 0, 1) := by decide +kernel
theorem dX9_evenings_75 : decode cX9_evenings 75 = .ok (.invokevirtual 407, 3) := by decide +kernel
theorem dX9_evenings_78 : decode cX9_evenings 78 = .ok (.iconst 0, 1) := by decide +kernel
theorem dX9_evenings_79 : decode cX9_evenings 79 = .ok (.istore 8, 2) := by decide +kernel
theorem dX9_evenings_81 : decode cX9_evenings 81 = .ok (.iload 8, 2) := by decide +kernel
theorem dX9_evenings_83 : decode cX9_evenings 83 = .ok (.iload_n 2, 1) := by decide +kernel
theorem dX9_evenings_84 : decode cX9_evenings 84 = .ok (.if_icmp .ge 212, 3) := by decide +kernel
theorem dX9_evenings_87 : decode cX9_evenings 87 = .ok (.iconst 0, 1) := by decide +kernel
theorem dX9_evenings_88 : decode cX9_evenings 88 = .ok (.istore 9, 2) := by decide +kernel
theorem dX9_evenings_90 : decode cX9_evenings 90 = .ok (.iload 9, 2) := by decide +kernel
theorem dX9_evenings_92 : decode cX9_evenings 92 = .ok (.aload_n 0, 1) := by decide +kernel
theorem dX9_evenings_93 : decode cX9_evenings 93 = .ok (.getfield 7, 3) := by decide +kernel
theorem dX9_evenings_96 : decode cX9_evenings 96 = .ok (.iconst 2, 1) := by decide +kernel
theorem dX9_evenings_97 : decode cX9_evenings 97 = .ok (.iaload, 1) := by decide +kernel
theorem dX9_evenings_98 : decode cX9_evenings 98 = .ok (.if_icmp .ge 43, 3) := by decide +kernel
theorem dX9_evenings_101 : decode cX9_evenings 101 = .ok (.aload_n 0, 1) := by decide +kernel
theorem dX9_evenings_102 : decode cX9_evenings 102 = .ok (.getfield 19, 3) := by decide +kernel
theorem dX9_evenings_105 : decode cX9_evenings 105 = .ok (.iload 9, 2) := by decide +kernel
theorem dX9_evenings_107 : decode cX9_evenings 107 = .ok (.aload_n 0, 1) := by decide +kernel
theorem dX9_evenings_108 : decode cX9_evenings 108 = .ok (.getfield 16, 3) := by decide +kernel
theorem dX9_evenings_111 : decode cX9_evenings 111 = .ok (.iload 9, 2) := by decide +kernel
theorem dX9_evenings_113 : decode cX9_evenings 113 = .ok (.iaload, 1) := by decide +kernel
theorem dX9_evenings_114 : decode cX9_evenings 114 = .ok (.iconst (-1), 1) := by decide +kernel
theorem dX9_evenings_115 : decode cX9_evenings 115 = .ok (.if_icmp .ne 13, 3) := by decide +kernel
theorem dX9_evenings_118 : decode cX9_evenings 118 = .ok (.aload_n 0, 1) := by decide +kernel
theorem dX9_evenings_119 : decode cX9_evenings 119 = .ok (.getfield 19, 3) := by decide +kernel
theorem dX9_evenings_122 : decode cX9_evenings 122 = .ok (.iload 9, 2) := by decide +kernel
theorem dX9_evenings_124 : decode cX9_evenings 124 = .ok (.iaload, 1) := by decide +kernel
theorem dX9_evenings_125 : decode cX9_evenings 125 = .ok (.goto 9, 3) := by decide +kernel
theorem dX9_evenings_128 : decode cX9_evenings 128 = .ok (.aload_n 0, 1) := by decide +kernel
theorem dX9_evenings_129 : decode cX9_evenings 129 = .ok (.bipush 100, 2) := by decide +kernel
theorem dX9_evenings_131 : decode cX9_evenings 131 = .ok (.invokevirtual 486, 3) := by decide +kernel
theorem dX9_evenings_134 : decode cX9_evenings 134 = .ok (.iastore, 1) := by decide +kernel
theorem dX9_evenings_135 : decode cX9_evenings 135 = .ok (.iinc 9 1, 3) := by decide +kernel
theorem dX9_evenings_138 : decode cX9_evenings 138 = .ok (.goto (-48), 3) := by decide +kernel
theorem dX9_evenings_141 : decode cX9_evenings 141 = .ok (.iconst 0, 1) := by decide +kernel
theorem dX9_evenings_142 : decode cX9_evenings 142 = .ok (.istore 9, 2) := by decide +kernel
theorem dX9_evenings_144 : decode cX9_evenings 144 = .ok (.iload 9, 2) := by decide +kernel
theorem dX9_evenings_146 : decode cX9_evenings 146 = .ok (.iload_n 3, 1) := by decide +kernel
theorem dX9_evenings_147 : decode cX9_evenings 147 = .ok (.if_icmp .ge 14, 3) := by decide +kernel
theorem dX9_evenings_150 : decode cX9_evenings 150 = .ok (.aload_n 0, 1) := by decide +kernel
theorem dX9_evenings_151 : decode cX9_evenings 151 = .ok (.iload_n 1, 1) := by decide +kernel
theorem dX9_evenings_152 : decode cX9_evenings 152 = .ok (.invokevirtual 405, 3) := by decide +kernel
theorem dX9_evenings_155 : decode cX9_evenings 155 = .ok (.iinc 9 1, 3) := by decide +kernel
theorem dX9_evenings_158 : decode cX9_evenings 158 = .ok (.goto (-14), 3) := by decide +kernel
theorem dX9_evenings_161 : decode cX9_evenings 161 = .ok (.aload_n 0, 1) := by decide +kernel
theorem dX9_evenings_162 : decode cX9_evenings 162 = .ok (.getfield 16, 3) := by decide +kernel
theorem dX9_evenings_165 : decode cX9_evenings 165 = .ok (.iload 4, 2) := by decide +kernel
theorem dX9_evenings_167 : decode cX9_evenings 167 = .ok (.iaload, 1) := by decide +kernel
theorem dX9_evenings_168 : decode cX9_evenings 168 = .ok (.iconst (-1), 1) := by decide +kernel
theorem dX9_evenings_169 : decode cX9_evenings 169 = .ok (.if_icmp .eq 23, 3) := by decide +kernel
theorem dX9_evenings_172 : decode cX9_evenings 172 = .ok (.aload_n 0, 1) := by decide +kernel
theorem dX9_evenings_173 : decode cX9_evenings 173 = .ok (.getfield 16, 3) := by decide +kernel
theorem dX9_evenings_176 : decode cX9_evenings 176 = .ok (.iload 4, 2) := by decide +kernel
theorem dX9_evenings_178 : decode cX9_evenings 178 = .ok (.iaload, 1) := by decide +kernel
theorem dX9_evenings_179 : decode cX9_evenings 179 = .ok (.aload_n 0, 1) := by decide +kernel
theorem dX9_evenings_180 : decode cX9_evenings 180 = .ok (.getfield 7, 3) := by decide +kernel
theorem dX9_evenings_183 : decode cX9_evenings 183 = .ok (.iconst 5, 1) := by decide +kernel
theorem dX9_evenings_184 : decode cX9_evenings 184 = .ok (.iaload, 1) := by decide +kernel
theorem dX9_evenings_185 : decode cX9_evenings 185 = .ok (.if_icmp .ne 7, 3) := by decide +kernel
theorem dX9_evenings_188 : decode cX9_evenings 188 = .ok (.iconst 1, 1) := by decide +kernel
theorem dX9_evenings_189 : decode cX9_evenings 189 = .ok (.goto 4, 3) := by decide +kernel
theorem dX9_evenings_192 : decode cX9_evenings 192 = .ok (.iconst 0, 1) := by decide +kernel
theorem dX9_evenings_193 : decode cX9_evenings 193 = .ok (.istore 9, 2) := by decide +kernel
theorem dX9_evenings_195 : decode cX9_evenings 195 = .ok (.iload 7, 2) := by decide +kernel
theorem dX9_evenings_197 : decode cX9_evenings 197 = .ok (.iload 5, 2) := by decide +kernel
theorem dX9_evenings_199 : decode cX9_evenings 199 = .ok (.ifCond .ne 16, 3) := by decide +kernel
theorem dX9_evenings_202 : decode cX9_evenings 202 = .ok (.iload 9, 2) := by decide +kernel
theorem dX9_evenings_204 : decode cX9_evenings 204 = .ok (.ifCond .eq 7, 3) := by decide +kernel
theorem dX9_evenings_207 : decode cX9_evenings 207 = .ok (.iconst 1, 1) := by decide +kernel
theorem dX9_evenings_208 : decode cX9_evenings 208 = .ok (.goto 46, 3) := by decide +kernel
theorem dX9_evenings_211 : decode cX9_evenings 211 = .ok (.iconst 0, 1) := by decide +kernel
theorem dX9_evenings_212 : decode cX9_evenings 212 = .ok (.goto 42, 3) := by decide +kernel
theorem dX9_evenings_215 : decode cX9_evenings 215 = .ok (.iload 5, 2) := by decide +kernel
theorem dX9_evenings_217 : decode cX9_evenings 217 = .ok (.iconst 1, 1) := by decide +kernel
theorem dX9_evenings_218 : decode cX9_evenings 218 = .ok (.if_icmp .ne 21, 3) := by decide +kernel
theorem dX9_evenings_221 : decode cX9_evenings 221 = .ok (.aload_n 0, 1) := by decide +kernel
theorem dX9_evenings_222 : decode cX9_evenings 222 = .ok (.getfield 25, 3) := by decide +kernel
theorem dX9_evenings_225 : decode cX9_evenings 225 = .ok (.iload 4, 2) := by decide +kernel
theorem dX9_evenings_227 : decode cX9_evenings 227 = .ok (.iaload, 1) := by decide +kernel
theorem dX9_evenings_228 : decode cX9_evenings 228 = .ok (.aload_n 0, 1) := by decide +kernel
theorem dX9_evenings_229 : decode cX9_evenings 229 = .ok (.getfield 121, 3) := by decide +kernel
theorem dX9_evenings_232 : decode cX9_evenings 232 = .ok (.iload 4, 2) := by decide +kernel
theorem dX9_evenings_234 : decode cX9_evenings 234 = .ok (.iaload, 1) := by decide +kernel
theorem dX9_evenings_235 : decode cX9_evenings 235 = .ok (.isub, 1) := by decide +kernel
theorem dX9_evenings_236 : decode cX9_evenings 236 = .ok (.goto 18, 3) := by decide +kernel
theorem dX9_evenings_239 : decode cX9_evenings 239 = .ok (.aload_n 0, 1) := by decide +kernel
theorem dX9_evenings_240 : decode cX9_evenings 240 = .ok (.getfield 7, 3) := by decide +kernel
theorem dX9_evenings_243 : decode cX9_evenings 243 = .ok (.bipush 8, 2) := by decide +kernel
theorem dX9_evenings_245 : decode cX9_evenings 245 = .ok (.iaload, 1) := by decide +kernel
theorem dX9_evenings_246 : decode cX9_evenings 246 = .ok (.aload_n 0, 1) := by decide +kernel
theorem dX9_evenings_247 : decode cX9_evenings 247 = .ok (.getfield 115, 3) := by decide +kernel
theorem dX9_evenings_250 : decode cX9_evenings 250 = .ok (.bipush 8, 2) := by decide +kernel
theorem dX9_evenings_252 : decode cX9_evenings 252 = .ok (.iaload, 1) := by decide +kernel
theorem dX9_evenings_253 : decode cX9_evenings 253 = .ok (.isub, 1) := by decide +kernel
theorem dX9_evenings_254 : decode cX9_evenings 254 = .ok (.iadd, 1) := by decide +kernel
theorem dX9_evenings_255 : decode cX9_evenings 255 = .ok (.istore 7, 2) := by decide +kernel
theorem dX9_evenings_257 : decode cX9_evenings 257 = .ok (.aload_n 0, 1) := by decide +kernel
theorem dX9_evenings_258 : decode cX9_evenings 258 = .ok (.getfield 7, 3) := by decide +kernel
theorem dX9_evenings_261 : decode cX9_evenings 261 = .ok (.bipush 13, 2) := by decide +kernel
theorem dX9_evenings_263 : decode cX9_evenings 263 = .ok (.iaload, 1) := by decide +kernel
theorem dX9_evenings_264 : decode cX9_evenings 264 = .ok (.istore 10, 2) := by decide +kernel
theorem dX9_evenings_266 : decode cX9_evenings 266 = .ok (.aload_n 0, 1) := by decide +kernel
theorem dX9_evenings_267 : decode cX9_evenings 267 = .ok (.invokevirtual 410, 3) := by decide +kernel
theorem dX9_evenings_270 : decode cX9_evenings 270 = .ok (.aload_n 0, 1) := by decide +kernel
theorem dX9_evenings_271 : decode cX9_evenings 271 = .ok (.getfield 7, 3) := by decide +kernel
theorem dX9_evenings_274 : decode cX9_evenings 274 = .ok (.bipush 13, 2) := by decide +kernel
theorem dX9_evenings_276 : decode cX9_evenings 276 = .ok (.iload 10, 2) := by decide +kernel
theorem dX9_evenings_278 : decode cX9_evenings 278 = .ok (.iastore, 1) := by decide +kernel
theorem dX9_evenings_279 : decode cX9_evenings 279 = .ok (.aload_n 0, 1) := by decide +kernel
theorem dX9_evenings_280 : decode cX9_evenings 280 = .ok (.getfield 134, 3) := by decide +kernel
theorem dX9_evenings_283 : decode cX9_evenings 283 = .ok (.aload_n 0, 1) := by decide +kernel
theorem dX9_evenings_284 : decode cX9_evenings 284 = .ok (.getfield 19, 3) := by decide +kernel
theorem dX9_evenings_287 : decode cX9_evenings 287 = .ok (.invokestatic 323, 3) := by decide +kernel
theorem dX9_evenings_290 : decode cX9_evenings 290 = .ok (.iinc 8 1, 3) := by decide +kernel
theorem dX9_evenings_293 : decode cX9_evenings 293 = .ok (.goto (-212), 3) := by decide +kernel
theorem dX9_evenings_296 : decode cX9_evenings 296 = .ok (.aload_n 0, 1) := by decide +kernel
theorem dX9_evenings_297 : decode cX9_evenings 297 = .ok (.getfield 7, 3) := by decide +kernel
theorem dX9_evenings_300 : decode cX9_evenings 300 = .ok (.bipush 13, 2) := by decide +kernel
theorem dX9_evenings_302 : decode cX9_evenings 302 = .ok (.iload 6, 2) := by decide +kernel
theorem dX9_evenings_304 : decode cX9_evenings 304 = .ok (.iastore, 1) := by decide +kernel
theorem dX9_evenings_305 : decode cX9_evenings 305 = .ok (.iload 7, 2) := by decide +kernel
theorem dX9_evenings_307 : decode cX9_evenings 307 = .ok (.ireturn, 1) := by decide +kernel
theorem dX9_log_0 : decode cX9_log 0 = .ok (.iload_n 1, 1) := by decide +kernel
theorem dX9_log_1 : decode cX9_log 1 = .ok (.i2l, 1) := by decide +kernel
theorem dX9_log_2 : decode cX9_log 2 = .ok (.lconst 1, 1) := by decide +kernel
theorem dX9_log_3 : decode cX9_log 3 = .ok (.aload_n 0, 1) := by decide +kernel
theorem dX9_log_4 : decode cX9_log 4 = .ok (.getfield 7, 3) := by decide +kernel
theorem dX9_log_7 : decode cX9_log 7 = .ok (.bipush 12, 2) := by decide +kernel
theorem dX9_log_9 : decode cX9_log 9 = .ok (.iaload, 1) := by decide +kernel
theorem dX9_log_10 : decode cX9_log 10 = .ok (.i2l, 1) := by decide +kernel
theorem dX9_log_11 : decode cX9_log 11 = .ok (.invokestatic 146, 3) := by decide +kernel
theorem dX9_log_14 : decode cX9_log 14 = .ok (.ifCond .eq 13, 3) := by decide +kernel
theorem dX9_log_17 : decode cX9_log 17 = .ok (.iload_n 2, 1) := by decide +kernel
theorem dX9_log_18 : decode cX9_log 18 = .ok (.i2l, 1) := by decide +kernel
theorem dX9_log_19 : decode cX9_log 19 = .ok (.lconst 0, 1) := by decide +kernel
theorem dX9_log_20 : decode cX9_log 20 = .ok (.lconst 1, 1) := by decide +kernel
theorem dX9_log_21 : decode cX9_log 21 = .ok (.invokestatic 146, 3) := by decide +kernel
theorem dX9_log_24 : decode cX9_log 24 = .ok (.ifCond .ne 7, 3) := by decide +kernel
theorem dX9_log_27 : decode cX9_log 27 = .ok (.iconst (-1), 1) := by decide +kernel
theorem dX9_log_28 : decode cX9_log 28 = .ok (.goto 15, 3) := by decide +kernel
theorem dX9_log_31 : decode cX9_log 31 = .ok (.aload_n 0, 1) := by decide +kernel
theorem dX9_log_32 : decode cX9_log 32 = .ok (.getfield 43, 3) := by decide +kernel
theorem dX9_log_35 : decode cX9_log 35 = .ok (.iload_n 1, 1) := by decide +kernel
theorem dX9_log_36 : decode cX9_log 36 = .ok (.iconst 1, 1) := by decide +kernel
theorem dX9_log_37 : decode cX9_log 37 = .ok (.isub, 1) := by decide +kernel
theorem dX9_log_38 : decode cX9_log 38 = .ok (.iaload, 1) := by decide +kernel
theorem dX9_log_39 : decode cX9_log 39 = .ok (.iload_n 2, 1) := by decide +kernel
theorem dX9_log_40 : decode cX9_log 40 = .ok (.invokestatic 420, 3) := by decide +kernel
theorem dX9_log_43 : decode cX9_log 43 = .ok (.ireturn, 1) := by decide +kernel
theorem dX9_hushed_0 : decode cX9_hushed 0 = .ok (.aload_n 0, 1) := by decide +kernel
theorem dX9_hushed_1 : decode cX9_hushed 1 = .ok (.iload_n 1, 1) := by decide +kernel
theorem dX9_hushed_2 : decode cX9_hushed 2 = .ok (.iload_n 2, 1) := by decide +kernel
theorem dX9_hushed_3 : decode cX9_hushed 3 = .ok (.invokevirtual 150, 3) := by decide +kernel
theorem dX9_hushed_6 : decode cX9_hushed 6 = .ok (.ifCond .ne 5, 3) := by decide +kernel
theorem dX9_hushed_9 : decode cX9_hushed 9 = .ok (.iconst (-1), 1) := by decide +kernel
theorem dX9_hushed_10 : decode cX9_hushed 10 = .ok (.ireturn, 1) := by decide +kernel
theorem dX9_hushed_11 : decode cX9_hushed 11 = .ok (.iconst 0, 1) := by decide +kernel
theorem dX9_hushed_12 : decode cX9_hushed 12 = .ok (.istore_n 3, 1) := by decide +kernel
theorem dX9_hushed_13 : decode cX9_hushed 13 = .ok (.iconst 0, 1) := by decide +kernel
theorem dX9_hushed_14 : decode cX9_hushed 14 = .ok (.istore 4, 2) := by decide +kernel
theorem dX9_hushed_16 : decode cX9_hushed 16 = .ok (.iload 4, 2) := by decide +kernel
theorem dX9_hushed_18 : decode cX9_hushed 18 = .ok (.aload_n 0, 1) := by decide +kernel
theorem dX9_hushed_19 : decode cX9_hushed 19 = .ok (.getfield 7, 3) := by decide +kernel
theorem dX9_hushed_22 : decode cX9_hushed 22 = .ok (.bipush 12, 2) := by decide +kernel
theorem dX9_hushed_24 : decode cX9_hushed 24 = .ok (.iaload, 1) := by decide +kernel
theorem dX9_hushed_25 : decode cX9_hushed 25 = .ok (.if_icmp .ge 33, 3) := by decide +kernel
theorem dX9_hushed_28 : decode cX9_hushed 28 = .ok (.iload_n 3, 1) := by decide +kernel
theorem dX9_hushed_29 : decode cX9_hushed 29 = .ok (.aload_n 0, 1) := by decide +kernel
theorem dX9_hushed_30 : decode cX9_hushed 30 = .ok (.getfield 43, 3) := by decide +kernel
theorem dX9_hushed_33 : decode cX9_hushed 33 = .ok (.iload 4, 2) := by decide +kernel
theorem dX9_hushed_35 : decode cX9_hushed 35 = .ok (.iaload, 1) := by decide +kernel
theorem dX9_hushed_36 : decode cX9_hushed 36 = .ok (.bipush 10, 2) := by decide +kernel
theorem dX9_hushed_38 : decode cX9_hushed 38 = .ok (.iload_n 2, 1) := by decide +kernel
theorem dX9_hushed_39 : decode cX9_hushed 39 = .ok (.imul, 1) := by decide +kernel
theorem dX9_hushed_40 : decode cX9_hushed 40 = .ok (.iload_n 1, 1) := by decide +kernel
theorem dX9_hushed_41 : decode cX9_hushed 41 = .ok (.iadd, 1) := by decide +kernel
theorem dX9_hushed_42 : decode cX9_hushed 42 = .ok (.if_icmp .ne 7, 3) := by decide +kernel
theorem dX9_hushed_45 : decode cX9_hushed 45 = .ok (.iconst 1, 1) := by decide +kernel
theorem dX9_hushed_46 : decode cX9_hushed 46 = .ok (.goto 4, 3) := by decide +kernel
theorem dX9_hushed_49 : decode cX9_hushed 49 = .ok (.iconst 0, 1) := by decide +kernel
theorem dX9_hushed_50 : decode cX9_hushed 50 = .ok (.iadd, 1) := by decide +kernel
theorem dX9_hushed_51 : decode cX9_hushed 51 = .ok (.istore_n 3, 1) := by decide +kernel
theorem dX9_hushed_52 : decode cX9_hushed 52 = .ok (.iinc 4 1, 3) := by decide +kernel
theorem dX9_hushed_55 : decode cX9_hushed 55 = .ok (.goto (-39), 3) := by decide +kernel
theorem dX9_hushed_58 : decode cX9_hushed 58 = .ok (.iload_n 3, 1) := by decide +kernel
theorem dX9_hushed_59 : decode cX9_hushed 59 = .ok (.ireturn, 1) := by decide +kernel
theorem dX9_count_0 : decode cX9_count 0 = .ok (.iload_n 1, 1) := by decide +kernel
theorem dX9_count_1 : decode cX9_count 1 = .ok (.tableswitch 214 0 16 #[83, 90, 97, 104, 111, 118, 123, 131, 131, 156, 161, 169, 177, 185, 193, 198, 206], 83) := by decide +kernel
theorem dX9_count_84 : decode cX9_count 84 = .ok (.aload_n 0, 1) := by decide +kernel
theorem dX9_count_85 : decode cX9_count 85 = .ok (.getfield 7, 3) := by decide +kernel
theorem dX9_count_88 : decode cX9_count 88 = .ok (.iconst 0, 1) := by decide +kernel
theorem dX9_count_89 : decode cX9_count 89 = .ok (.iaload, 1) := by decide +kernel
theorem dX9_count_90 : decode cX9_count 90 = .ok (.ireturn, 1) := by decide +kernel
theorem dX9_count_91 : decode cX9_count 91 = .ok (.aload_n 0, 1) := by decide +kernel
theorem dX9_count_92 : decode cX9_count 92 = .ok (.getfield 7, 3) := by decide +kernel
theorem dX9_count_95 : decode cX9_count 95 = .ok (.iconst 1, 1) := by decide +kernel
theorem dX9_count_96 : decode cX9_count 96 = .ok (.iaload, 1) := by decide +kernel
theorem dX9_count_97 : decode cX9_count 97 = .ok (.ireturn, 1) := by decide +kernel
theorem dX9_count_98 : decode cX9_count 98 = .ok (.aload_n 0, 1) := by decide +kernel
theorem dX9_count_99 : decode cX9_count 99 = .ok (.getfield 7, 3) := by decide +kernel
theorem dX9_count_102 : decode cX9_count 102 = .ok (.iconst 2, 1) := by decide +kernel
theorem dX9_count_103 : decode cX9_count 103 = .ok (.iaload, 1) := by decide +kernel
theorem dX9_count_104 : decode cX9_count 104 = .ok (.ireturn, 1) := by decide +kernel
theorem dX9_count_105 : decode cX9_count 105 = .ok (.aload_n 0, 1) := by decide +kernel
theorem dX9_count_106 : decode cX9_count 106 = .ok (.getfield 7, 3) := by decide +kernel
theorem dX9_count_109 : decode cX9_count 109 = .ok (.iconst 3, 1) := by decide +kernel
theorem dX9_count_110 : decode cX9_count 110 = .ok (.iaload, 1) := by decide +kernel
theorem dX9_count_111 : decode cX9_count 111 = .ok (.ireturn, 1) := by decide +kernel
theorem dX9_count_112 : decode cX9_count 112 = .ok (.aload_n 0, 1) := by decide +kernel
theorem dX9_count_113 : decode cX9_count 113 = .ok (.getfield 7, 3) := by decide +kernel
theorem dX9_count_116 : decode cX9_count 116 = .ok (.iconst 4, 1) := by decide +kernel
theorem dX9_count_117 : decode cX9_count 117 = .ok (.iaload, 1) := by decide +kernel
theorem dX9_count_118 : decode cX9_count 118 = .ok (.ireturn, 1) := by decide +kernel
theorem dX9_count_119 : decode cX9_count 119 = .ok (.aload_n 0, 1) := by decide +kernel
theorem dX9_count_120 : decode cX9_count 120 = .ok (.getfield 340, 3) := by decide +kernel
theorem dX9_count_123 : decode cX9_count 123 = .ok (.ireturn, 1) := by decide +kernel
theorem dX9_count_124 : decode cX9_count 124 = .ok (.aload_n 0, 1) := by decide +kernel
theorem dX9_count_125 : decode cX9_count 125 = .ok (.getfield 7, 3) := by decide +kernel
theorem dX9_count_128 : decode cX9_count 128 = .ok (.bipush 7, 2) := by decide +kernel
theorem dX9_count_130 : decode cX9_count 130 = .ok (.iaload, 1) := by decide +kernel
theorem dX9_count_131 : decode cX9_count 131 = .ok (.ireturn, 1) := by decide +kernel
theorem dX9_count_132 : decode cX9_count 132 = .ok (.aload_n 0, 1) := by decide +kernel
theorem dX9_count_133 : decode cX9_count 133 = .ok (.invokevirtual 397, 3) := by decide +kernel
theorem dX9_count_136 : decode cX9_count 136 = .ok (.ifCond .eq 19, 3) := by decide +kernel
theorem dX9_count_139 : decode cX9_count 139 = .ok (.aload_n 0, 1) := by decide +kernel
theorem dX9_count_140 : decode cX9_count 140 = .ok (.getfield 7, 3) := by decide +kernel
theorem dX9_count_143 : decode cX9_count 143 = .ok (.iconst 5, 1) := by decide +kernel
theorem dX9_count_144 : decode cX9_count 144 = .ok (.iaload, 1) := by decide +kernel
theorem dX9_count_145 : decode cX9_count 145 = .ok (.iload_n 1, 1) := by decide +kernel
theorem dX9_count_146 : decode cX9_count 146 = .ok (.bipush 7, 2) := by decide +kernel
theorem dX9_count_148 : decode cX9_count 148 = .ok (.isub, 1) := by decide +kernel
theorem dX9_count_149 : decode cX9_count 149 = .ok (.invokestatic 420, 3) := by decide +kernel
theorem dX9_count_152 : decode cX9_count 152 = .ok (.goto 4, 3) := by decide +kernel
theorem dX9_count_155 : decode cX9_count 155 = .ok (.iconst (-1), 1) := by decide +kernel
theorem dX9_count_156 : decode cX9_count 156 = .ok (.ireturn, 1) := by decide +kernel
theorem dX9_count_157 : decode cX9_count 157 = .ok (.aload_n 0, 1) := by decide +kernel
theorem dX9_count_158 : decode cX9_count 158 = .ok (.invokevirtual 327, 3) := by decide +kernel
theorem dX9_count_161 : decode cX9_count 161 = .ok (.ireturn, 1) := by decide +kernel
theorem dX9_count_162 : decode cX9_count 162 = .ok (.aload_n 0, 1) := by decide +kernel
theorem dX9_count_163 : decode cX9_count 163 = .ok (.getfield 7, 3) := by decide +kernel
theorem dX9_count_166 : decode cX9_count 166 = .ok (.bipush 8, 2) := by decide +kernel
theorem dX9_count_168 : decode cX9_count 168 = .ok (.iaload, 1) := by decide +kernel
theorem dX9_count_169 : decode cX9_count 169 = .ok (.ireturn, 1) := by decide +kernel
theorem dX9_count_170 : decode cX9_count 170 = .ok (.aload_n 0, 1) := by decide +kernel
theorem dX9_count_171 : decode cX9_count 171 = .ok (.getfield 7, 3) := by decide +kernel
theorem dX9_count_174 : decode cX9_count 174 = .ok (.bipush 9, 2) := by decide +kernel
theorem dX9_count_176 : decode cX9_count 176 = .ok (.iaload, 1) := by decide +kernel
theorem dX9_count_177 : decode cX9_count 177 = .ok (.ireturn, 1) := by decide +kernel
theorem dX9_count_178 : decode cX9_count 178 = .ok (.aload_n 0, 1) := by decide +kernel
theorem dX9_count_179 : decode cX9_count 179 = .ok (.getfield 7, 3) := by decide +kernel
theorem dX9_count_182 : decode cX9_count 182 = .ok (.bipush 10, 2) := by decide +kernel
theorem dX9_count_184 : decode cX9_count 184 = .ok (.iaload, 1) := by decide +kernel
theorem dX9_count_185 : decode cX9_count 185 = .ok (.ireturn, 1) := by decide +kernel
theorem dX9_count_186 : decode cX9_count 186 = .ok (.aload_n 0, 1) := by decide +kernel
theorem dX9_count_187 : decode cX9_count 187 = .ok (.getfield 7, 3) := by decide +kernel
theorem dX9_count_190 : decode cX9_count 190 = .ok (.bipush 13, 2) := by decide +kernel
theorem dX9_count_192 : decode cX9_count 192 = .ok (.iaload, 1) := by decide +kernel
theorem dX9_count_193 : decode cX9_count 193 = .ok (.ireturn, 1) := by decide +kernel
theorem dX9_count_194 : decode cX9_count 194 = .ok (.aload_n 0, 1) := by decide +kernel
theorem dX9_count_195 : decode cX9_count 195 = .ok (.getfield 158, 3) := by decide +kernel
theorem dX9_count_198 : decode cX9_count 198 = .ok (.ireturn, 1) := by decide +kernel
theorem dX9_count_199 : decode cX9_count 199 = .ok (.aload_n 0, 1) := by decide +kernel
theorem dX9_count_200 : decode cX9_count 200 = .ok (.getfield 7, 3) := by decide +kernel
theorem dX9_count_203 : decode cX9_count 203 = .ok (.bipush 12, 2) := by decide +kernel
theorem dX9_count_205 : decode cX9_count 205 = .ok (.iaload, 1) := by decide +kernel
theorem dX9_count_206 : decode cX9_count 206 = .ok (.ireturn, 1) := by decide +kernel
theorem dX9_count_207 : decode cX9_count 207 = .ok (.aload_n 0, 1) := by decide +kernel
theorem dX9_count_208 : decode cX9_count 208 = .ok (.getfield 7, 3) := by decide +kernel
theorem dX9_count_211 : decode cX9_count 211 = .ok (.bipush 11, 2) := by decide +kernel
theorem dX9_count_213 : decode cX9_count 213 = .ok (.iaload, 1) := by decide +kernel
theorem dX9_count_214 : decode cX9_count 214 = .ok (.ireturn, 1) := by decide +kernel
theorem dX9_count_215 : decode cX9_count 215 = .ok (.iconst (-1), 1) := by decide +kernel
theorem dX9_count_216 : decode cX9_count 216 = .ok (.ireturn, 1) := by decide +kernel
theorem dX9_carry_0 : decode cX9_carry 0 = .ok (.iconst 0, 1) := by decide +kernel
theorem dX9_carry_1 : decode cX9_carry 1 = .ok (.istore_n 2, 1) := by decide +kernel
theorem dX9_carry_2 : decode cX9_carry 2 = .ok (.iload_n 2, 1) := by decide +kernel
theorem dX9_carry_3 : decode cX9_carry 3 = .ok (.aload_n 1, 1) := by decide +kernel
theorem dX9_carry_4 : decode cX9_carry 4 = .ok (.arraylength, 1) := by decide +kernel
theorem dX9_carry_5 : decode cX9_carry 5 = .ok (.if_icmp .ge 53, 3) := by decide +kernel
theorem dX9_carry_8 : decode cX9_carry 8 = .ok (.aload_n 0, 1) := by decide +kernel
theorem dX9_carry_9 : decode cX9_carry 9 = .ok (.getfield 489, 3) := by decide +kernel
theorem dX9_carry_12 : decode cX9_carry 12 = .ok (.ifCond .eq 18, 3) := by decide +kernel
theorem dX9_carry_15 : decode cX9_carry 15 = .ok (.aload_n 1, 1) := by decide +kernel
theorem dX9_carry_16 : decode cX9_carry 16 = .ok (.iload_n 2, 1) := by decide +kernel
theorem dX9_carry_17 : decode cX9_carry 17 = .ok (.aload_n 0, 1) := by decide +kernel
theorem dX9_carry_18 : decode cX9_carry 18 = .ok (.getfield 137, 3) := by decide +kernel
theorem dX9_carry_21 : decode cX9_carry 21 = .ok (.aload_n 0, 1) := by decide +kernel
theorem dX9_carry_22 : decode cX9_carry 22 = .ok (.getfield 492, 3) := by decide +kernel
theorem dX9_carry_25 : decode cX9_carry 25 = .ok (.iaload, 1) := by decide +kernel
theorem dX9_carry_26 : decode cX9_carry 26 = .ok (.iastore, 1) := by decide +kernel
theorem dX9_carry_27 : decode cX9_carry 27 = .ok (.goto 15, 3) := by decide +kernel
theorem dX9_carry_30 : decode cX9_carry 30 = .ok (.aload_n 0, 1) := by decide +kernel
theorem dX9_carry_31 : decode cX9_carry 31 = .ok (.getfield 137, 3) := by decide +kernel
theorem dX9_carry_34 : decode cX9_carry 34 = .ok (.aload_n 0, 1) := by decide +kernel
theorem dX9_carry_35 : decode cX9_carry 35 = .ok (.getfield 492, 3) := by decide +kernel
theorem dX9_carry_38 : decode cX9_carry 38 = .ok (.aload_n 1, 1) := by decide +kernel
theorem dX9_carry_39 : decode cX9_carry 39 = .ok (.iload_n 2, 1) := by decide +kernel
theorem dX9_carry_40 : decode cX9_carry 40 = .ok (.iaload, 1) := by decide +kernel
theorem dX9_carry_41 : decode cX9_carry 41 = .ok (.iastore, 1) := by decide +kernel
theorem dX9_carry_42 : decode cX9_carry 42 = .ok (.aload_n 0, 1) := by decide +kernel
theorem dX9_carry_43 : decode cX9_carry 43 = .ok (.dup, 1) := by decide +kernel
theorem dX9_carry_44 : decode cX9_carry 44 = .ok (.getfield 492, 3) := by decide +kernel
theorem dX9_carry_47 : decode cX9_carry 47 = .ok (.iconst 1, 1) := by decide +kernel
theorem dX9_carry_48 : decode cX9_carry 48 = .ok (.iadd, 1) := by decide +kernel
theorem dX9_carry_49 : decode cX9_carry 49 = .ok (.putfield 492, 3) := by decide +kernel
theorem dX9_carry_52 : decode cX9_carry 52 = .ok (.iinc 2 1, 3) := by decide +kernel
theorem dX9_carry_55 : decode cX9_carry 55 = .ok (.goto (-53), 3) := by decide +kernel
theorem dX9_carry_58 : decode cX9_carry 58 = .ok (.return_, 1) := by decide +kernel
theorem dX9_carriesAll_0 : decode cX9_carriesAll 0 = .ok (.aload_n 0, 1) := by decide +kernel
theorem dX9_carriesAll_1 : decode cX9_carriesAll 1 = .ok (.sipush 310, 3) := by decide +kernel
theorem dX9_carriesAll_4 : decode cX9_carriesAll 4 = .ok (.iload_n 1, 1) := by decide +kernel
theorem dX9_carriesAll_5 : decode cX9_carriesAll 5 = .ok (.imul, 1) := by decide +kernel
theorem dX9_carriesAll_6 : decode cX9_carriesAll 6 = .ok (.putfield 492, 3) := by decide +kernel
theorem dX9_carriesAll_9 : decode cX9_carriesAll 9 = .ok (.aload_n 0, 1) := by decide +kernel
theorem dX9_carriesAll_10 : decode cX9_carriesAll 10 = .ok (.iload_n 2, 1) := by decide +kernel
theorem dX9_carriesAll_11 : decode cX9_carriesAll 11 = .ok (.putfield 489, 3) := by decide +kernel
theorem dX9_carriesAll_14 : decode cX9_carriesAll 14 = .ok (.aload_n 0, 1) := by decide +kernel
theorem dX9_carriesAll_15 : decode cX9_carriesAll 15 = .ok (.aload_n 0, 1) := by decide +kernel
theorem dX9_carriesAll_16 : decode cX9_carriesAll 16 = .ok (.getfield 7, 3) := by decide +kernel
theorem dX9_carriesAll_19 : decode cX9_carriesAll 19 = .ok (.invokevirtual 495, 3) := by decide +kernel
theorem dX9_carriesAll_22 : decode cX9_carriesAll 22 = .ok (.aload_n 0, 1) := by decide +kernel
theorem dX9_carriesAll_23 : decode cX9_carriesAll 23 = .ok (.aload_n 0, 1) := by decide +kernel
theorem dX9_carriesAll_24 : decode cX9_carriesAll 24 = .ok (.getfield 13, 3) := by decide +kernel
theorem dX9_carriesAll_27 : decode cX9_carriesAll 27 = .ok (.invokevirtual 495, 3) := by decide +kernel
theorem dX9_carriesAll_30 : decode cX9_carriesAll 30 = .ok (.aload_n 0, 1) := by decide +kernel
theorem dX9_carriesAll_31 : decode cX9_carriesAll 31 = .ok (.aload_n 0, 1) := by decide +kernel
theorem dX9_carriesAll_32 : decode cX9_carriesAll 32 = .ok (.getfield 16, 3) := by decide +kernel
theorem dX9_carriesAll_35 : decode cX9_carriesAll 35 = .ok (.invokevirtual 495, 3) := by decide +kernel
theorem dX9_carriesAll_38 : decode cX9_carriesAll 38 = .ok (.aload_n 0, 1) := by decide +kernel
theorem dX9_carriesAll_39 : decode cX9_carriesAll 39 = .ok (.aload_n 0, 1) := by decide +kernel
theorem dX9_carriesAll_40 : decode cX9_carriesAll 40 = .ok (.getfield 19, 3) := by decide +kernel
theorem dX9_carriesAll_43 : decode cX9_carriesAll 43 = .ok (.invokevirtual 495, 3) := by decide +kernel
theorem dX9_carriesAll_46 : decode cX9_carriesAll 46 = .ok (.aload_n 0, 1) := by decide +kernel
theorem dX9_carriesAll_47 : decode cX9_carriesAll 47 = .ok (.aload_n 0, 1) := by decide +kernel
theorem dX9_carriesAll_48 : decode cX9_carriesAll 48 = .ok (.getfield 22, 3) := by decide +kernel
theorem dX9_carriesAll_51 : decode cX9_carriesAll 51 = .ok (.invokevirtual 495, 3) := by decide +kernel
theorem dX9_carriesAll_54 : decode cX9_carriesAll 54 = .ok (.aload_n 0, 1) := by decide +kernel
theorem dX9_carriesAll_55 : decode cX9_carriesAll 55 = .ok (.aload_n 0, 1) := by decide +kernel
theorem dX9_carriesAll_56 : decode cX9_carriesAll 56 = .ok (.getfield 25, 3) := by decide +kernel
theorem dX9_carriesAll_59 : decode cX9_carriesAll 59 = .ok (.invokevirtual 495, 3) := by decide +kernel
theorem dX9_carriesAll_62 : decode cX9_carriesAll 62 = .ok (.aload_n 0, 1) := by decide +kernel
theorem dX9_carriesAll_63 : decode cX9_carriesAll 63 = .ok (.aload_n 0, 1) := by decide +kernel
theorem dX9_carriesAll_64 : decode cX9_carriesAll 64 = .ok (.getfield 28, 3) := by decide +kernel
theorem dX9_carriesAll_67 : decode cX9_carriesAll 67 = .ok (.invokevirtual 495, 3) := by decide +kernel
theorem dX9_carriesAll_70 : decode cX9_carriesAll 70 = .ok (.aload_n 0, 1) := by decide +kernel
theorem dX9_carriesAll_71 : decode cX9_carriesAll 71 = .ok (.aload_n 0, 1) := by decide +kernel
theorem dX9_carriesAll_72 : decode cX9_carriesAll 72 = .ok (.getfield 31, 3) := by decide +kernel
theorem dX9_carriesAll_75 : decode cX9_carriesAll 75 = .ok (.invokevirtual 495, 3) := by decide +kernel
theorem dX9_carriesAll_78 : decode cX9_carriesAll 78 = .ok (.aload_n 0, 1) := by decide +kernel
theorem dX9_carriesAll_79 : decode cX9_carriesAll 79 = .ok (.aload_n 0, 1) := by decide +kernel
theorem dX9_carriesAll_80 : decode cX9_carriesAll 80 = .ok (.getfield 34, 3) := by decide +kernel
theorem dX9_carriesAll_83 : decode cX9_carriesAll 83 = .ok (.invokevirtual 495, 3) := by decide +kernel
theorem dX9_carriesAll_86 : decode cX9_carriesAll 86 = .ok (.aload_n 0, 1) := by decide +kernel
theorem dX9_carriesAll_87 : decode cX9_carriesAll 87 = .ok (.aload_n 0, 1) := by decide +kernel
theorem dX9_carriesAll_88 : decode cX9_carriesAll 88 = .ok (.getfield 37, 3) := by decide +kernel
theorem dX9_carriesAll_91 : decode cX9_carriesAll 91 = .ok (.invokevirtual 495, 3) := by decide +kernel
theorem dX9_carriesAll_94 : decode cX9_carriesAll 94 = .ok (.aload_n 0, 1) := by decide +kernel
theorem dX9_carriesAll_95 : decode cX9_carriesAll 95 = .ok (.aload_n 0, 1) := by decide +kernel
theorem dX9_carriesAll_96 : decode cX9_carriesAll 96 = .ok (.getfield 40, 3) := by decide +kernel
theorem dX9_carriesAll_99 : decode cX9_carriesAll 99 = .ok (.invokevirtual 495, 3) := by decide +kernel
theorem dX9_carriesAll_102 : decode cX9_carriesAll 102 = .ok (.aload_n 0, 1) := by decide +kernel
theorem dX9_carriesAll_103 : decode cX9_carriesAll 103 = .ok (.aload_n 0, 1) := by decide +kernel
theorem dX9_carriesAll_104 : decode cX9_carriesAll 104 = .ok (.getfield 43, 3) := by decide +kernel
theorem dX9_carriesAll_107 : decode cX9_carriesAll 107 = .ok (.invokevirtual 495, 3) := by decide +kernel
theorem dX9_carriesAll_110 : decode cX9_carriesAll 110 = .ok (.return_, 1) := by decide +kernel
theorem dX9_image_0 : decode cX9_image 0 = .ok (.iload_n 1, 1) := by decide +kernel
theorem dX9_image_1 : decode cX9_image 1 = .ok (.i2l, 1) := by decide +kernel
theorem dX9_image_2 : decode cX9_image 2 = .ok (.lconst 0, 1) := by decide +kernel
theorem dX9_image_3 : decode cX9_image 3 = .ok (.ldc2_w 453, 3) := by decide +kernel
theorem dX9_image_6 : decode cX9_image 6 = .ok (.invokestatic 146, 3) := by decide +kernel
theorem dX9_image_9 : decode cX9_image 9 = .ok (.ifCond .ne 5, 3) := by decide +kernel
theorem dX9_image_12 : decode cX9_image 12 = .ok (.iconst (-1), 1) := by decide +kernel
theorem dX9_image_13 : decode cX9_image 13 = .ok (.ireturn, 1) := by decide +kernel
theorem dX9_image_14 : decode cX9_image 14 = .ok (.aload_n 0, 1) := by decide +kernel
theorem dX9_image_15 : decode cX9_image 15 = .ok (.getfield 140, 3) := by decide +kernel
theorem dX9_image_18 : decode cX9_image 18 = .ok (.iload_n 1, 1) := by decide +kernel
theorem dX9_image_19 : decode cX9_image 19 = .ok (.iconst 1, 1) := by decide +kernel
theorem dX9_image_20 : decode cX9_image 20 = .ok (.bastore, 1) := by decide +kernel
theorem dX9_image_21 : decode cX9_image 21 = .ok (.aload_n 0, 1) := by decide +kernel
theorem dX9_image_22 : decode cX9_image 22 = .ok (.iload_n 1, 1) := by decide +kernel
theorem dX9_image_23 : decode cX9_image 23 = .ok (.iconst 0, 1) := by decide +kernel
theorem dX9_image_24 : decode cX9_image 24 = .ok (.invokevirtual 499, 3) := by decide +kernel
theorem dX9_image_27 : decode cX9_image 27 = .ok (.aload_n 0, 1) := by decide +kernel
theorem dX9_image_28 : decode cX9_image 28 = .ok (.getfield 7, 3) := by decide +kernel
theorem dX9_image_31 : decode cX9_image 31 = .ok (.bipush 7, 2) := by decide +kernel
theorem dX9_image_33 : decode cX9_image 33 = .ok (.iaload, 1) := by decide +kernel
theorem dX9_image_34 : decode cX9_image 34 = .ok (.ireturn, 1) := by decide +kernel
theorem dX9_back_0 : decode cX9_back 0 = .ok (.iload_n 1, 1) := by decide +kernel
theorem dX9_back_1 : decode cX9_back 1 = .ok (.i2l, 1) := by decide +kernel
theorem dX9_back_2 : decode cX9_back 2 = .ok (.lconst 0, 1) := by decide +kernel
theorem dX9_back_3 : decode cX9_back 3 = .ok (.ldc2_w 453, 3) := by decide +kernel
theorem dX9_back_6 : decode cX9_back 6 = .ok (.invokestatic 146, 3) := by decide +kernel
theorem dX9_back_9 : decode cX9_back 9 = .ok (.ifCond .eq 12, 3) := by decide +kernel
theorem dX9_back_12 : decode cX9_back 12 = .ok (.aload_n 0, 1) := by decide +kernel
theorem dX9_back_13 : decode cX9_back 13 = .ok (.getfield 140, 3) := by decide +kernel
theorem dX9_back_16 : decode cX9_back 16 = .ok (.iload_n 1, 1) := by decide +kernel
theorem dX9_back_17 : decode cX9_back 17 = .ok (.baload, 1) := by decide +kernel
theorem dX9_back_18 : decode cX9_back 18 = .ok (.ifCond .ne 5, 3) := by decide +kernel
theorem dX9_back_21 : decode cX9_back 21 = .ok (.iconst (-1), 1) := by decide +kernel
theorem dX9_back_22 : decode cX9_back 22 = .ok (.ireturn, 1) := by decide +kernel
theorem dX9_back_23 : decode cX9_back 23 = .ok (.aload_n 0, 1) := by decide +kernel
theorem dX9_back_24 : decode cX9_back 24 = .ok (.iload_n 1, 1) := by decide +kernel
theorem dX9_back_25 : decode cX9_back 25 = .ok (.iconst 1, 1) := by decide +kernel
theorem dX9_back_26 : decode cX9_back 26 = .ok (.invokevirtual 499, 3) := by decide +kernel
theorem dX9_back_29 : decode cX9_back 29 = .ok (.aload_n 0, 1) := by decide +kernel
theorem dX9_back_30 : decode cX9_back 30 = .ok (.getfield 7, 3) := by decide +kernel
theorem dX9_back_33 : decode cX9_back 33 = .ok (.bipush 7, 2) := by decide +kernel
theorem dX9_back_35 : decode cX9_back 35 = .ok (.iaload, 1) := by decide +kernel
theorem dX9_back_36 : decode cX9_back 36 = .ok (.ireturn, 1) := by decide +kernel
theorem dJ9_abs_0f7a4_0 : decode cJ9_abs_0f7a4 0 = .ok (.iload_n 0, 1) := by decide +kernel
theorem dJ9_abs_0f7a4_1 : decode cJ9_abs_0f7a4 1 = .ok (.ifCond .ge 8, 3) := by decide +kernel
theorem dJ9_abs_0f7a4_4 : decode cJ9_abs_0f7a4 4 = .ok (.iload_n 0, 1) := by decide +kernel
theorem dJ9_abs_0f7a4_5 : decode cJ9_abs_0f7a4 5 = .ok (.ineg, 1) := by decide +kernel
theorem dJ9_abs_0f7a4_6 : decode cJ9_abs_0f7a4 6 = .ok (.goto 4, 3) := by decide +kernel
theorem dJ9_abs_0f7a4_9 : decode cJ9_abs_0f7a4 9 = .ok (.iload_n 0, 1) := by decide +kernel
theorem dJ9_abs_0f7a4_10 : decode cJ9_abs_0f7a4 10 = .ok (.ireturn, 1) := by decide +kernel
theorem dJ9_max_7cf53_0 : decode cJ9_max_7cf53 0 = .ok (.iload_n 0, 1) := by decide +kernel
theorem dJ9_max_7cf53_1 : decode cJ9_max_7cf53 1 = .ok (.iload_n 1, 1) := by decide +kernel
theorem dJ9_max_7cf53_2 : decode cJ9_max_7cf53 2 = .ok (.if_icmp .lt 7, 3) := by decide +kernel
theorem dJ9_max_7cf53_5 : decode cJ9_max_7cf53 5 = .ok (.iload_n 0, 1) := by decide +kernel
theorem dJ9_max_7cf53_6 : decode cJ9_max_7cf53 6 = .ok (.goto 4, 3) := by decide +kernel
theorem dJ9_max_7cf53_9 : decode cJ9_max_7cf53 9 = .ok (.iload_n 1, 1) := by decide +kernel
theorem dJ9_max_7cf53_10 : decode cJ9_max_7cf53 10 = .ok (.ireturn, 1) := by decide +kernel
theorem dJ9_min_7cf53_0 : decode cJ9_min_7cf53 0 = .ok (.iload_n 0, 1) := by decide +kernel
theorem dJ9_min_7cf53_1 : decode cJ9_min_7cf53 1 = .ok (.iload_n 1, 1) := by decide +kernel
theorem dJ9_min_7cf53_2 : decode cJ9_min_7cf53 2 = .ok (.if_icmp .gt 7, 3) := by decide +kernel
theorem dJ9_min_7cf53_5 : decode cJ9_min_7cf53 5 = .ok (.iload_n 0, 1) := by decide +kernel
theorem dJ9_min_7cf53_6 : decode cJ9_min_7cf53 6 = .ok (.goto 4, 3) := by decide +kernel
theorem dJ9_min_7cf53_9 : decode cJ9_min_7cf53 9 = .ok (.iload_n 1, 1) := by decide +kernel
theorem dJ9_min_7cf53_10 : decode cJ9_min_7cf53 10 = .ok (.ireturn, 1) := by decide +kernel
theorem dJ0_length_8abf5_0 : decode cJ0_length_8abf5 0 = .ok (.aload_n 0, 1) := by decide +kernel
theorem dJ0_length_8abf5_1 : decode cJ0_length_8abf5 1 = .ok (.getfield 9, 3) := by decide +kernel
theorem dJ0_length_8abf5_4 : decode cJ0_length_8abf5 4 = .ok (.arraylength, 1) := by decide +kernel
theorem dJ0_length_8abf5_5 : decode cJ0_length_8abf5 5 = .ok (.aload_n 0, 1) := by decide +kernel
theorem dJ0_length_8abf5_6 : decode cJ0_length_8abf5 6 = .ok (.invokevirtual 335, 3) := by decide +kernel
theorem dJ0_length_8abf5_9 : decode cJ0_length_8abf5 9 = .ok (.ishr, 1) := by decide +kernel
theorem dJ0_length_8abf5_10 : decode cJ0_length_8abf5 10 = .ok (.ireturn, 1) := by decide +kernel
theorem dJ0_charAt_5068e_0 : decode cJ0_charAt_5068e 0 = .ok (.aload_n 0, 1) := by decide +kernel
theorem dJ0_charAt_5068e_1 : decode cJ0_charAt_5068e 1 = .ok (.invokevirtual 492, 3) := by decide +kernel
theorem dJ0_charAt_5068e_4 : decode cJ0_charAt_5068e 4 = .ok (.ifCond .eq 12, 3) := by decide +kernel
theorem dJ0_charAt_5068e_7 : decode cJ0_charAt_5068e 7 = .ok (.aload_n 0, 1) := by decide +kernel
theorem dJ0_charAt_5068e_8 : decode cJ0_charAt_5068e 8 = .ok (.getfield 9, 3) := by decide +kernel
theorem dJ0_charAt_5068e_11 : decode cJ0_charAt_5068e 11 = .ok (.iload_n 1, 1) := by decide +kernel
theorem dJ0_charAt_5068e_12 : decode cJ0_charAt_5068e 12 = .ok (.invokestatic 495, 3) := by decide +kernel
theorem dJ0_charAt_5068e_15 : decode cJ0_charAt_5068e 15 = .ok (.ireturn, 1) := by decide +kernel
theorem dJ0_charAt_5068e_16 : decode cJ0_charAt_5068e 16 = .ok (.aload_n 0, 1) := by decide +kernel
theorem dJ0_charAt_5068e_17 : decode cJ0_charAt_5068e 17 = .ok (.getfield 9, 3) := by decide +kernel
theorem dJ0_charAt_5068e_20 : decode cJ0_charAt_5068e 20 = .ok (.iload_n 1, 1) := by decide +kernel
theorem dJ0_charAt_5068e_21 : decode cJ0_charAt_5068e 21 = .ok (.invokestatic 498, 3) := by decide +kernel
theorem dJ0_charAt_5068e_24 : decode cJ0_charAt_5068e 24 = .ok (.ireturn, 1) := by decide +kernel
theorem dJ0_coder_7d493_0 : decode cJ0_coder_7d493 0 = .ok (.getstatic 38, 3) := by decide +kernel
theorem dJ0_coder_7d493_3 : decode cJ0_coder_7d493 3 = .ok (.ifCond .eq 10, 3) := by decide +kernel
theorem dJ0_coder_7d493_6 : decode cJ0_coder_7d493 6 = .ok (.aload_n 0, 1) := by decide +kernel
theorem dJ0_coder_7d493_7 : decode cJ0_coder_7d493 7 = .ok (.getfield 15, 3) := by decide +kernel
theorem dJ0_coder_7d493_10 : decode cJ0_coder_7d493 10 = .ok (.goto 4, 3) := by decide +kernel
theorem dJ0_coder_7d493_13 : decode cJ0_coder_7d493 13 = .ok (.iconst 1, 1) := by decide +kernel
theorem dJ0_coder_7d493_14 : decode cJ0_coder_7d493 14 = .ok (.ireturn, 1) := by decide +kernel
theorem dJ0_isLatin1_aae02_0 : decode cJ0_isLatin1_aae02 0 = .ok (.getstatic 38, 3) := by decide +kernel
theorem dJ0_isLatin1_aae02_3 : decode cJ0_isLatin1_aae02 3 = .ok (.ifCond .eq 14, 3) := by decide +kernel
theorem dJ0_isLatin1_aae02_6 : decode cJ0_isLatin1_aae02 6 = .ok (.aload_n 0, 1) := by decide +kernel
theorem dJ0_isLatin1_aae02_7 : decode cJ0_isLatin1_aae02 7 = .ok (.getfield 15, 3) := by decide +kernel
theorem dJ0_isLatin1_aae02_10 : decode cJ0_isLatin1_aae02 10 = .ok (.ifCond .ne 7, 3) := by decide +kernel
theorem dJ0_isLatin1_aae02_13 : decode cJ0_isLatin1_aae02 13 = .ok (.iconst 1, 1) := by decide +kernel
theorem dJ0_isLatin1_aae02_14 : decode cJ0_isLatin1_aae02 14 = .ok (.goto 4, 3) := by decide +kernel
theorem dJ0_isLatin1_aae02_17 : decode cJ0_isLatin1_aae02 17 = .ok (.iconst 0, 1) := by decide +kernel
theorem dJ0_isLatin1_aae02_18 : decode cJ0_isLatin1_aae02 18 = .ok (.ireturn, 1) := by decide +kernel
theorem dJ0_checkIndex_df160_0 : decode cJ0_checkIndex_df160 0 = .ok (.iload_n 0, 1) := by decide +kernel
theorem dJ0_checkIndex_df160_1 : decode cJ0_checkIndex_df160 1 = .ok (.iload_n 1, 1) := by decide +kernel
theorem dJ0_checkIndex_df160_2 : decode cJ0_checkIndex_df160 2 = .ok (.getstatic 1053, 3) := by decide +kernel
theorem dJ0_checkIndex_df160_5 : decode cJ0_checkIndex_df160 5 = .ok (.invokestatic 1059, 3) := by decide +kernel
theorem dJ0_checkIndex_df160_8 : decode cJ0_checkIndex_df160 8 = .ok (.pop, 1) := by decide +kernel
theorem dJ0_checkIndex_df160_9 : decode cJ0_checkIndex_df160 9 = .ok (.return_, 1) := by decide +kernel
theorem dJ1_charAt_3b067_0 : decode cJ1_charAt_3b067 0 = .ok (.iload_n 1, 1) := by decide +kernel
theorem dJ1_charAt_3b067_1 : decode cJ1_charAt_3b067 1 = .ok (.aload_n 0, 1) := by decide +kernel
theorem dJ1_charAt_3b067_2 : decode cJ1_charAt_3b067 2 = .ok (.arraylength, 1) := by decide +kernel
theorem dJ1_charAt_3b067_3 : decode cJ1_charAt_3b067 3 = .ok (.invokestatic 9, 3) := by decide +kernel
theorem dJ1_charAt_3b067_6 : decode cJ1_charAt_3b067 6 = .ok (.aload_n 0, 1) := by decide +kernel
theorem dJ1_charAt_3b067_7 : decode cJ1_charAt_3b067 7 = .ok (.iload_n 1, 1) := by decide +kernel
theorem dJ1_charAt_3b067_8 : decode cJ1_charAt_3b067 8 = .ok (.baload, 1) := by decide +kernel
theorem dJ1_charAt_3b067_9 : decode cJ1_charAt_3b067 9 = .ok (.sipush 255, 3) := by decide +kernel
theorem dJ1_charAt_3b067_12 : decode cJ1_charAt_3b067 12 = .ok (.iand, 1) := by decide +kernel
theorem dJ1_charAt_3b067_13 : decode cJ1_charAt_3b067 13 = .ok (.i2c, 1) := by decide +kernel
theorem dJ1_charAt_3b067_14 : decode cJ1_charAt_3b067 14 = .ok (.ireturn, 1) := by decide +kernel
theorem dJ2_getChar_3b067_0 : decode cJ2_getChar_3b067 0 = .ok (.getstatic 44, 3) := by decide +kernel
theorem dJ2_getChar_3b067_3 : decode cJ2_getChar_3b067 3 = .ok (.ifCond .ne 25, 3) := by decide +kernel
theorem dJ2_getChar_3b067_6 : decode cJ2_getChar_3b067 6 = .ok (.iload_n 1, 1) := by decide +kernel
theorem dJ2_getChar_3b067_7 : decode cJ2_getChar_3b067 7 = .ok (.ifCond .lt 11, 3) := by decide +kernel
theorem dJ2_getChar_3b067_10 : decode cJ2_getChar_3b067 10 = .ok (.iload_n 1, 1) := by decide +kernel
theorem dJ2_getChar_3b067_11 : decode cJ2_getChar_3b067 11 = .ok (.aload_n 0, 1) := by decide +kernel
theorem dJ2_getChar_3b067_12 : decode cJ2_getChar_3b067 12 = .ok (.invokestatic 48, 3) := by decide +kernel
theorem dJ2_getChar_3b067_15 : decode cJ2_getChar_3b067 15 = .ok (.if_icmp .lt 13, 3) := by decide +kernel
theorem dJ2_getChar_3b067_18 : decode cJ2_getChar_3b067 18 = .ok (.new 52, 3) := by decide +kernel
theorem dJ2_getChar_3b067_21 : decode cJ2_getChar_3b067 21 = .ok (.dup, 1) := by decide +kernel
theorem dJ2_getChar_3b067_22 : decode cJ2_getChar_3b067 22 = .ok (.ldc 54, 2) := by decide +kernel
theorem dJ2_getChar_3b067_24 : decode cJ2_getChar_3b067 24 = .ok (.invokespecial 56, 3) := by decide +kernel
theorem dJ2_getChar_3b067_27 : decode cJ2_getChar_3b067 27 = .ok (.athrow, 1) := by decide +kernel
theorem dJ2_getChar_3b067_28 : decode cJ2_getChar_3b067 28 = .ok (.iload_n 1, 1) := by decide +kernel
theorem dJ2_getChar_3b067_29 : decode cJ2_getChar_3b067 29 = .ok (.iconst 1, 1) := by decide +kernel
theorem dJ2_getChar_3b067_30 : decode cJ2_getChar_3b067 30 = .ok (.ishl, 1) := by decide +kernel
theorem dJ2_getChar_3b067_31 : decode cJ2_getChar_3b067 31 = .ok (.istore_n 1, 1) := by decide +kernel
theorem dJ2_getChar_3b067_32 : decode cJ2_getChar_3b067 32 = .ok (.aload_n 0, 1) := by decide +kernel
theorem dJ2_getChar_3b067_33 : decode cJ2_getChar_3b067 33 = .ok (.iload_n 1, 1) := by decide +kernel
theorem dJ2_getChar_3b067_34 : decode cJ2_getChar_3b067 34 = .ok (.iinc 1 1, 3) := by decide +kernel
theorem dJ2_getChar_3b067_37 : decode cJ2_getChar_3b067 37 = .ok (.baload, 1) := by decide +kernel
theorem dJ2_getChar_3b067_38 : decode cJ2_getChar_3b067 38 = .ok (.sipush 255, 3) := by decide +kernel
theorem dJ2_getChar_3b067_41 : decode cJ2_getChar_3b067 41 = .ok (.iand, 1) := by decide +kernel
theorem dJ2_getChar_3b067_42 : decode cJ2_getChar_3b067 42 = .ok (.getstatic 59, 3) := by decide +kernel
theorem dJ2_getChar_3b067_45 : decode cJ2_getChar_3b067 45 = .ok (.ishl, 1) := by decide +kernel
theorem dJ2_getChar_3b067_46 : decode cJ2_getChar_3b067 46 = .ok (.aload_n 0, 1) := by decide +kernel
theorem dJ2_getChar_3b067_47 : decode cJ2_getChar_3b067 47 = .ok (.iload_n 1, 1) := by decide +kernel
theorem dJ2_getChar_3b067_48 : decode cJ2_getChar_3b067 48 = .ok (.baload, 1) := by decide +kernel
theorem dJ2_getChar_3b067_49 : decode cJ2_getChar_3b067 49 = .ok (.sipush 255, 3) := by decide +kernel
theorem dJ2_getChar_3b067_52 : decode cJ2_getChar_3b067 52 = .ok (.iand, 1) := by decide +kernel
theorem dJ2_getChar_3b067_53 : decode cJ2_getChar_3b067 53 = .ok (.getstatic 63, 3) := by decide +kernel
theorem dJ2_getChar_3b067_56 : decode cJ2_getChar_3b067 56 = .ok (.ishl, 1) := by decide +kernel
theorem dJ2_getChar_3b067_57 : decode cJ2_getChar_3b067 57 = .ok (.ior, 1) := by decide +kernel
theorem dJ2_getChar_3b067_58 : decode cJ2_getChar_3b067 58 = .ok (.i2c, 1) := by decide +kernel
theorem dJ2_getChar_3b067_59 : decode cJ2_getChar_3b067 59 = .ok (.ireturn, 1) := by decide +kernel
theorem dJ2_length_9d52b_0 : decode cJ2_length_9d52b 0 = .ok (.aload_n 0, 1) := by decide +kernel
theorem dJ2_length_9d52b_1 : decode cJ2_length_9d52b 1 = .ok (.arraylength, 1) := by decide +kernel
theorem dJ2_length_9d52b_2 : decode cJ2_length_9d52b 2 = .ok (.iconst 1, 1) := by decide +kernel
theorem dJ2_length_9d52b_3 : decode cJ2_length_9d52b 3 = .ok (.ishr, 1) := by decide +kernel
theorem dJ2_length_9d52b_4 : decode cJ2_length_9d52b 4 = .ok (.ireturn, 1) := by decide +kernel
theorem dJ2_charAt_3b067_0 : decode cJ2_charAt_3b067 0 = .ok (.iload_n 1, 1) := by decide +kernel
theorem dJ2_charAt_3b067_1 : decode cJ2_charAt_3b067 1 = .ok (.aload_n 0, 1) := by decide +kernel
theorem dJ2_charAt_3b067_2 : decode cJ2_charAt_3b067 2 = .ok (.invokestatic 67, 3) := by decide +kernel
theorem dJ2_charAt_3b067_5 : decode cJ2_charAt_3b067 5 = .ok (.aload_n 0, 1) := by decide +kernel
theorem dJ2_charAt_3b067_6 : decode cJ2_charAt_3b067 6 = .ok (.iload_n 1, 1) := by decide +kernel
theorem dJ2_charAt_3b067_7 : decode cJ2_charAt_3b067 7 = .ok (.invokestatic 71, 3) := by decide +kernel
theorem dJ2_charAt_3b067_10 : decode cJ2_charAt_3b067 10 = .ok (.ireturn, 1) := by decide +kernel
theorem dJ2_checkIndex_2214a_0 : decode cJ2_checkIndex_2214a 0 = .ok (.iload_n 0, 1) := by decide +kernel
theorem dJ2_checkIndex_2214a_1 : decode cJ2_checkIndex_2214a 1 = .ok (.aload_n 1, 1) := by decide +kernel
theorem dJ2_checkIndex_2214a_2 : decode cJ2_checkIndex_2214a 2 = .ok (.invokestatic 48, 3) := by decide +kernel
theorem dJ2_checkIndex_2214a_5 : decode cJ2_checkIndex_2214a 5 = .ok (.invokestatic 414, 3) := by decide +kernel
theorem dJ2_checkIndex_2214a_8 : decode cJ2_checkIndex_2214a 8 = .ok (.return_, 1) := by decide +kernel
theorem dJ7_fill_53178_0 : decode cJ7_fill_53178 0 = .ok (.iconst 0, 1) := by decide +kernel
theorem dJ7_fill_53178_1 : decode cJ7_fill_53178 1 = .ok (.istore_n 2, 1) := by decide +kernel
theorem dJ7_fill_53178_2 : decode cJ7_fill_53178 2 = .ok (.aload_n 0, 1) := by decide +kernel
theorem dJ7_fill_53178_3 : decode cJ7_fill_53178 3 = .ok (.arraylength, 1) := by decide +kernel
theorem dJ7_fill_53178_4 : decode cJ7_fill_53178 4 = .ok (.istore_n 3, 1) := by decide +kernel
theorem dJ7_fill_53178_5 : decode cJ7_fill_53178 5 = .ok (.iload_n 2, 1) := by decide +kernel
theorem dJ7_fill_53178_6 : decode cJ7_fill_53178 6 = .ok (.iload_n 3, 1) := by decide +kernel
theorem dJ7_fill_53178_7 : decode cJ7_fill_53178 7 = .ok (.if_icmp .ge 13, 3) := by decide +kernel
theorem dJ7_fill_53178_10 : decode cJ7_fill_53178 10 = .ok (.aload_n 0, 1) := by decide +kernel
theorem dJ7_fill_53178_11 : decode cJ7_fill_53178 11 = .ok (.iload_n 2, 1) := by decide +kernel
theorem dJ7_fill_53178_12 : decode cJ7_fill_53178 12 = .ok (.iload_n 1, 1) := by decide +kernel
theorem dJ7_fill_53178_13 : decode cJ7_fill_53178 13 = .ok (.iastore, 1) := by decide +kernel
theorem dJ7_fill_53178_14 : decode cJ7_fill_53178 14 = .ok (.iinc 2 1, 3) := by decide +kernel
theorem dJ7_fill_53178_17 : decode cJ7_fill_53178 17 = .ok (.goto (-12), 3) := by decide +kernel
theorem dJ7_fill_53178_20 : decode cJ7_fill_53178 20 = .ok (.return_, 1) := by decide +kernel
theorem dJ7_copyOf_59c91_0 : decode cJ7_copyOf_59c91 0 = .ok (.iload_n 1, 1) := by decide +kernel
theorem dJ7_copyOf_59c91_1 : decode cJ7_copyOf_59c91 1 = .ok (.aload_n 0, 1) := by decide +kernel
theorem dJ7_copyOf_59c91_2 : decode cJ7_copyOf_59c91 2 = .ok (.arraylength, 1) := by decide +kernel
theorem dJ7_copyOf_59c91_3 : decode cJ7_copyOf_59c91 3 = .ok (.if_icmp .ne 11, 3) := by decide +kernel
theorem dJ7_copyOf_59c91_6 : decode cJ7_copyOf_59c91 6 = .ok (.aload_n 0, 1) := by decide +kernel
theorem dJ7_copyOf_59c91_7 : decode cJ7_copyOf_59c91 7 = .ok (.invokevirtual 316, 3) := by decide +kernel
theorem dJ7_copyOf_59c91_10 : decode cJ7_copyOf_59c91 10 = .ok (.checkcast 317, 3) := by decide +kernel
theorem dJ7_copyOf_59c91_13 : decode cJ7_copyOf_59c91 13 = .ok (.areturn, 1) := by decide +kernel
theorem dJ7_copyOf_59c91_14 : decode cJ7_copyOf_59c91 14 = .ok (.iload_n 1, 1) := by decide +kernel
theorem dJ7_copyOf_59c91_15 : decode cJ7_copyOf_59c91 15 = .ok (.newarray .int, 2) := by decide +kernel
theorem dJ7_copyOf_59c91_17 : decode cJ7_copyOf_59c91 17 = .ok (.astore_n 2, 1) := by decide +kernel
theorem dJ7_copyOf_59c91_18 : decode cJ7_copyOf_59c91 18 = .ok (.aload_n 0, 1) := by decide +kernel
theorem dJ7_copyOf_59c91_19 : decode cJ7_copyOf_59c91 19 = .ok (.iconst 0, 1) := by decide +kernel
theorem dJ7_copyOf_59c91_20 : decode cJ7_copyOf_59c91 20 = .ok (.aload_n 2, 1) := by decide +kernel
theorem dJ7_copyOf_59c91_21 : decode cJ7_copyOf_59c91 21 = .ok (.iconst 0, 1) := by decide +kernel
theorem dJ7_copyOf_59c91_22 : decode cJ7_copyOf_59c91 22 = .ok (.aload_n 0, 1) := by decide +kernel
theorem dJ7_copyOf_59c91_23 : decode cJ7_copyOf_59c91 23 = .ok (.arraylength, 1) := by decide +kernel
theorem dJ7_copyOf_59c91_24 : decode cJ7_copyOf_59c91 24 = .ok (.iload_n 1, 1) := by decide +kernel
theorem dJ7_copyOf_59c91_25 : decode cJ7_copyOf_59c91 25 = .ok (.invokestatic 304, 3) := by decide +kernel
theorem dJ7_copyOf_59c91_28 : decode cJ7_copyOf_59c91 28 = .ok (.invokestatic 150, 3) := by decide +kernel
theorem dJ7_copyOf_59c91_31 : decode cJ7_copyOf_59c91 31 = .ok (.aload_n 2, 1) := by decide +kernel
theorem dJ7_copyOf_59c91_32 : decode cJ7_copyOf_59c91 32 = .ok (.areturn, 1) := by decide +kernel
theorem dJ3_checkIndex_8e157_0 : decode cJ3_checkIndex_8e157 0 = .ok (.iload_n 0, 1) := by decide +kernel
theorem dJ3_checkIndex_8e157_1 : decode cJ3_checkIndex_8e157 1 = .ok (.ifCond .lt 8, 3) := by decide +kernel
theorem dJ3_checkIndex_8e157_4 : decode cJ3_checkIndex_8e157 4 = .ok (.iload_n 0, 1) := by decide +kernel
theorem dJ3_checkIndex_8e157_5 : decode cJ3_checkIndex_8e157 5 = .ok (.iload_n 1, 1) := by decide +kernel
theorem dJ3_checkIndex_8e157_6 : decode cJ3_checkIndex_8e157 6 = .ok (.if_icmp .lt 10, 3) := by decide +kernel
theorem dJ3_checkIndex_8e157_9 : decode cJ3_checkIndex_8e157 9 = .ok (.aload_n 2, 1) := by decide +kernel
theorem dJ3_checkIndex_8e157_10 : decode cJ3_checkIndex_8e157 10 = .ok (.iload_n 0, 1) := by decide +kernel
theorem dJ3_checkIndex_8e157_11 : decode cJ3_checkIndex_8e157 11 = .ok (.iload_n 1, 1) := by decide +kernel
theorem dJ3_checkIndex_8e157_12 : decode cJ3_checkIndex_8e157 12 = .ok (.invokestatic 95, 3) := by decide +kernel
theorem dJ3_checkIndex_8e157_15 : decode cJ3_checkIndex_8e157 15 = .ok (.athrow, 1) := by decide +kernel
theorem dJ3_checkIndex_8e157_16 : decode cJ3_checkIndex_8e157 16 = .ok (.iload_n 0, 1) := by decide +kernel
theorem dJ3_checkIndex_8e157_17 : decode cJ3_checkIndex_8e157 17 = .ok (.ireturn, 1) := by decide +kernel
theorem dL_law_0 : decode cL_law 0 = .ok (.new 7, 3) := by decide +kernel
theorem dL_law_3 : decode cL_law 3 = .ok (.dup, 1) := by decide +kernel
theorem dL_law_4 : decode cL_law 4 = .ok (.invokespecial 9, 3) := by decide +kernel
theorem dL_law_7 : decode cL_law 7 = .ok (.astore_n 1, 1) := by decide +kernel
theorem dL_law_8 : decode cL_law 8 = .ok (.new 10, 3) := by decide +kernel
theorem dL_law_11 : decode cL_law 11 = .ok (.dup, 1) := by decide +kernel
theorem dL_law_12 : decode cL_law 12 = .ok (.invokespecial 12, 3) := by decide +kernel
theorem dL_law_15 : decode cL_law 15 = .ok (.astore_n 2, 1) := by decide +kernel
theorem dL_law_16 : decode cL_law 16 = .ok (.iconst 0, 1) := by decide +kernel
theorem dL_law_17 : decode cL_law 17 = .ok (.istore_n 3, 1) := by decide +kernel
theorem dL_law_18 : decode cL_law 18 = .ok (.iload_n 3, 1) := by decide +kernel
theorem dL_law_19 : decode cL_law 19 = .ok (.aload_n 0, 1) := by decide +kernel
theorem dL_law_20 : decode cL_law 20 = .ok (.arraylength, 1) := by decide +kernel
theorem dL_law_21 : decode cL_law 21 = .ok (.bipush 6, 2) := by decide +kernel
theorem dL_law_23 : decode cL_law 23 = .ok (.isub, 1) := by decide +kernel
theorem dL_law_24 : decode cL_law 24 = .ok (.if_icmp .gt 1290, 3) := by decide +kernel
theorem dL_law_27 : decode cL_law 27 = .ok (.aload_n 0, 1) := by decide +kernel
theorem dL_law_28 : decode cL_law 28 = .ok (.iload_n 3, 1) := by decide +kernel
theorem dL_law_29 : decode cL_law 29 = .ok (.iaload, 1) := by decide +kernel
theorem dL_law_30 : decode cL_law 30 = .ok (.bipush 31, 2) := by decide +kernel
theorem dL_law_32 : decode cL_law 32 = .ok (.iand, 1) := by decide +kernel
theorem dL_law_33 : decode cL_law 33 = .ok (.tableswitch 1275 0 29 #[135, 198, 221, 234, 247, 290, 323, 356, 399, 422, 455, 488, 521, 564, 607, 650, 703, 746, 789, 832, 865, 928, 991, 1054, 1077, 1140, 1173, 1206, 1229, 1252], 135) := by decide +kernel
theorem dL_law_168 : decode cL_law 168 = .ok (.aload_n 1, 1) := by decide +kernel
theorem dL_law_169 : decode cL_law 169 = .ok (.aload_n 0, 1) := by decide +kernel
theorem dL_law_170 : decode cL_law 170 = .ok (.iload_n 3, 1) := by decide +kernel
theorem dL_law_171 : decode cL_law 171 = .ok (.iconst 1, 1) := by decide +kernel
theorem dL_law_172 : decode cL_law 172 = .ok (.iadd, 1) := by decide +kernel
theorem dL_law_173 : decode cL_law 173 = .ok (.iaload, 1) := by decide +kernel
theorem dL_law_174 : decode cL_law 174 = .ok (.aload_n 0, 1) := by decide +kernel
theorem dL_law_175 : decode cL_law 175 = .ok (.iload_n 3, 1) := by decide +kernel
theorem dL_law_176 : decode cL_law 176 = .ok (.iconst 2, 1) := by decide +kernel
theorem dL_law_177 : decode cL_law 177 = .ok (.iadd, 1) := by decide +kernel
theorem dL_law_178 : decode cL_law 178 = .ok (.iaload, 1) := by decide +kernel
theorem dL_law_179 : decode cL_law 179 = .ok (.aload_n 0, 1) := by decide +kernel
theorem dL_law_180 : decode cL_law 180 = .ok (.iload_n 3, 1) := by decide +kernel
theorem dL_law_181 : decode cL_law 181 = .ok (.iconst 3, 1) := by decide +kernel
theorem dL_law_182 : decode cL_law 182 = .ok (.iadd, 1) := by decide +kernel
theorem dL_law_183 : decode cL_law 183 = .ok (.iaload, 1) := by decide +kernel
theorem dL_law_184 : decode cL_law 184 = .ok (.aload_n 0, 1) := by decide +kernel
theorem dL_law_185 : decode cL_law 185 = .ok (.iload_n 3, 1) := by decide +kernel
theorem dL_law_186 : decode cL_law 186 = .ok (.iconst 4, 1) := by decide +kernel
theorem dL_law_187 : decode cL_law 187 = .ok (.iadd, 1) := by decide +kernel
theorem dL_law_188 : decode cL_law 188 = .ok (.iaload, 1) := by decide +kernel
theorem dL_law_189 : decode cL_law 189 = .ok (.aload_n 0, 1) := by decide +kernel
theorem dL_law_190 : decode cL_law 190 = .ok (.iload_n 3, 1) := by decide +kernel
theorem dL_law_191 : decode cL_law 191 = .ok (.iconst 5, 1) := by decide +kernel
theorem dL_law_192 : decode cL_law 192 = .ok (.iadd, 1) := by decide +kernel
theorem dL_law_193 : decode cL_law 193 = .ok (.iaload, 1) := by decide +kernel
theorem dL_law_194 : decode cL_law 194 = .ok (.invokevirtual 13, 3) := by decide +kernel
theorem dL_law_197 : decode cL_law 197 = .ok (.aload_n 2, 1) := by decide +kernel
theorem dL_law_198 : decode cL_law 198 = .ok (.aload_n 0, 1) := by decide +kernel
theorem dL_law_199 : decode cL_law 199 = .ok (.iload_n 3, 1) := by decide +kernel
theorem dL_law_200 : decode cL_law 200 = .ok (.iconst 1, 1) := by decide +kernel
theorem dL_law_201 : decode cL_law 201 = .ok (.iadd, 1) := by decide +kernel
theorem dL_law_202 : decode cL_law 202 = .ok (.iaload, 1) := by decide +kernel
theorem dL_law_203 : decode cL_law 203 = .ok (.aload_n 0, 1) := by decide +kernel
theorem dL_law_204 : decode cL_law 204 = .ok (.iload_n 3, 1) := by decide +kernel
theorem dL_law_205 : decode cL_law 205 = .ok (.iconst 2, 1) := by decide +kernel
theorem dL_law_206 : decode cL_law 206 = .ok (.iadd, 1) := by decide +kernel
theorem dL_law_207 : decode cL_law 207 = .ok (.iaload, 1) := by decide +kernel
theorem dL_law_208 : decode cL_law 208 = .ok (.aload_n 0, 1) := by decide +kernel
theorem dL_law_209 : decode cL_law 209 = .ok (.iload_n 3, 1) := by decide +kernel
theorem dL_law_210 : decode cL_law 210 = .ok (.iconst 3, 1) := by decide +kernel
theorem dL_law_211 : decode cL_law 211 = .ok (.iadd, 1) := by decide +kernel
theorem dL_law_212 : decode cL_law 212 = .ok (.iaload, 1) := by decide +kernel
theorem dL_law_213 : decode cL_law 213 = .ok (.aload_n 0, 1) := by decide +kernel
theorem dL_law_214 : decode cL_law 214 = .ok (.iload_n 3, 1) := by decide +kernel
theorem dL_law_215 : decode cL_law 215 = .ok (.iconst 4, 1) := by decide +kernel
theorem dL_law_216 : decode cL_law 216 = .ok (.iadd, 1) := by decide +kernel
theorem dL_law_217 : decode cL_law 217 = .ok (.iaload, 1) := by decide +kernel
theorem dL_law_218 : decode cL_law 218 = .ok (.aload_n 0, 1) := by decide +kernel
theorem dL_law_219 : decode cL_law 219 = .ok (.iload_n 3, 1) := by decide +kernel
theorem dL_law_220 : decode cL_law 220 = .ok (.iconst 5, 1) := by decide +kernel
theorem dL_law_221 : decode cL_law 221 = .ok (.iadd, 1) := by decide +kernel
theorem dL_law_222 : decode cL_law 222 = .ok (.iaload, 1) := by decide +kernel
theorem dL_law_223 : decode cL_law 223 = .ok (.invokevirtual 17, 3) := by decide +kernel
theorem dL_law_226 : decode cL_law 226 = .ok (.if_icmp .eq 1082, 3) := by decide +kernel
theorem dL_law_229 : decode cL_law 229 = .ok (.iconst 0, 1) := by decide +kernel
theorem dL_law_230 : decode cL_law 230 = .ok (.ireturn, 1) := by decide +kernel
theorem dL_law_231 : decode cL_law 231 = .ok (.aload_n 1, 1) := by decide +kernel
theorem dL_law_232 : decode cL_law 232 = .ok (.aload_n 0, 1) := by decide +kernel
theorem dL_law_233 : decode cL_law 233 = .ok (.iload_n 3, 1) := by decide +kernel
theorem dL_law_234 : decode cL_law 234 = .ok (.iconst 1, 1) := by decide +kernel
theorem dL_law_235 : decode cL_law 235 = .ok (.iadd, 1) := by decide +kernel
theorem dL_law_236 : decode cL_law 236 = .ok (.iaload, 1) := by decide +kernel
theorem dL_law_237 : decode cL_law 237 = .ok (.invokevirtual 18, 3) := by decide +kernel
theorem dL_law_240 : decode cL_law 240 = .ok (.aload_n 2, 1) := by decide +kernel
theorem dL_law_241 : decode cL_law 241 = .ok (.aload_n 0, 1) := by decide +kernel
theorem dL_law_242 : decode cL_law 242 = .ok (.iload_n 3, 1) := by decide +kernel
theorem dL_law_243 : decode cL_law 243 = .ok (.iconst 1, 1) := by decide +kernel
theorem dL_law_244 : decode cL_law 244 = .ok (.iadd, 1) := by decide +kernel
theorem dL_law_245 : decode cL_law 245 = .ok (.iaload, 1) := by decide +kernel
theorem dL_law_246 : decode cL_law 246 = .ok (.invokevirtual 22, 3) := by decide +kernel
theorem dL_law_249 : decode cL_law 249 = .ok (.if_icmp .eq 1059, 3) := by decide +kernel
theorem dL_law_252 : decode cL_law 252 = .ok (.iconst 0, 1) := by decide +kernel
theorem dL_law_253 : decode cL_law 253 = .ok (.ireturn, 1) := by decide +kernel
theorem dL_law_254 : decode cL_law 254 = .ok (.aload_n 1, 1) := by decide +kernel
theorem dL_law_255 : decode cL_law 255 = .ok (.invokevirtual 23, 3) := by decide +kernel
theorem dL_law_258 : decode cL_law 258 = .ok (.aload_n 2, 1) := by decide +kernel
theorem dL_law_259 : decode cL_law 259 = .ok (.invokevirtual 27, 3) := by decide +kernel
theorem dL_law_262 : decode cL_law 262 = .ok (.if_icmp .eq 1046, 3) := by decide +kernel
theorem dL_law_265 : decode cL_law 265 = .ok (.iconst 0, 1) := by decide +kernel
theorem dL_law_266 : decode cL_law 266 = .ok (.ireturn, 1) := by decide +kernel
theorem dL_law_267 : decode cL_law 267 = .ok (.aload_n 1, 1) := by decide +kernel
theorem dL_law_268 : decode cL_law 268 = .ok (.invokevirtual 28, 3) := by decide +kernel
theorem dL_law_271 : decode cL_law 271 = .ok (.aload_n 2, 1) := by decide +kernel
theorem dL_law_272 : decode cL_law 272 = .ok (.invokevirtual 31, 3) := by decide +kernel
theorem dL_law_275 : decode cL_law 275 = .ok (.if_icmp .eq 1033, 3) := by decide +kernel
theorem dL_law_278 : decode cL_law 278 = .ok (.iconst 0, 1) := by decide +kernel
theorem dL_law_279 : decode cL_law 279 = .ok (.ireturn, 1) := by decide +kernel
theorem dL_law_280 : decode cL_law 280 = .ok (.aload_n 1, 1) := by decide +kernel
theorem dL_law_281 : decode cL_law 281 = .ok (.aload_n 0, 1) := by decide +kernel
theorem dL_law_282 : decode cL_law 282 = .ok (.iload_n 3, 1) := by decide +kernel
theorem dL_law_283 : decode cL_law 283 = .ok (.iconst 1, 1) := by decide +kernel
theorem dL_law_284 : decode cL_law 284 = .ok (.iadd, 1) := by decide +kernel
theorem dL_law_285 : decode cL_law 285 = .ok (.iaload, 1) := by decide +kernel
theorem dL_law_286 : decode cL_law 286 = .ok (.aload_n 0, 1) := by decide +kernel
theorem dL_law_287 : decode cL_law 287 = .ok (.iload_n 3, 1) := by decide +kernel
theorem dL_law_288 : decode cL_law 288 = .ok (.iconst 2, 1) := by decide +kernel
theorem dL_law_289 : decode cL_law 289 = .ok (.iadd, 1) := by decide +kernel
theorem dL_law_290 : decode cL_law 290 = .ok (.iaload, 1) := by decide +kernel
theorem dL_law_291 : decode cL_law 291 = .ok (.aload_n 0, 1) := by decide +kernel
theorem dL_law_292 : decode cL_law 292 = .ok (.iload_n 3, 1) := by decide +kernel
theorem dL_law_293 : decode cL_law 293 = .ok (.iconst 3, 1) := by decide +kernel
theorem dL_law_294 : decode cL_law 294 = .ok (.iadd, 1) := by decide +kernel
theorem dL_law_295 : decode cL_law 295 = .ok (.iaload, 1) := by decide +kernel
theorem dL_law_296 : decode cL_law 296 = .ok (.invokevirtual 32, 3) := by decide +kernel
theorem dL_law_299 : decode cL_law 299 = .ok (.aload_n 2, 1) := by decide +kernel
theorem dL_law_300 : decode cL_law 300 = .ok (.aload_n 0, 1) := by decide +kernel
theorem dL_law_301 : decode cL_law 301 = .ok (.iload_n 3, 1) := by decide +kernel
theorem dL_law_302 : decode cL_law 302 = .ok (.iconst 1, 1) := by decide +kernel
theorem dL_law_303 : decode cL_law 303 = .ok (.iadd, 1) := by decide +kernel
theorem dL_law_304 : decode cL_law 304 = .ok (.iaload, 1) := by decide +kernel
theorem dL_law_305 : decode cL_law 305 = .ok (.aload_n 0, 1) := by decide +kernel
theorem dL_law_306 : decode cL_law 306 = .ok (.iload_n 3, 1) := by decide +kernel
theorem dL_law_307 : decode cL_law 307 = .ok (.iconst 2, 1) := by decide +kernel
theorem dL_law_308 : decode cL_law 308 = .ok (.iadd, 1) := by decide +kernel
theorem dL_law_309 : decode cL_law 309 = .ok (.iaload, 1) := by decide +kernel
theorem dL_law_310 : decode cL_law 310 = .ok (.aload_n 0, 1) := by decide +kernel
theorem dL_law_311 : decode cL_law 311 = .ok (.iload_n 3, 1) := by decide +kernel
theorem dL_law_312 : decode cL_law 312 = .ok (.iconst 3, 1) := by decide +kernel
theorem dL_law_313 : decode cL_law 313 = .ok (.iadd, 1) := by decide +kernel
theorem dL_law_314 : decode cL_law 314 = .ok (.iaload, 1) := by decide +kernel
theorem dL_law_315 : decode cL_law 315 = .ok (.invokevirtual 36, 3) := by decide +kernel
theorem dL_law_318 : decode cL_law 318 = .ok (.if_icmp .eq 990, 3) := by decide +kernel
theorem dL_law_321 : decode cL_law 321 = .ok (.iconst 0, 1) := by decide +kernel
theorem dL_law_322 : decode cL_law 322 = .ok (.ireturn, 1) := by decide +kernel
theorem dL_law_323 : decode cL_law 323 = .ok (.aload_n 1, 1) := by decide +kernel
theorem dL_law_324 : decode cL_law 324 = .ok (.aload_n 0, 1) := by decide +kernel
theorem dL_law_325 : decode cL_law 325 = .ok (.iload_n 3, 1) := by decide +kernel
theorem dL_law_326 : decode cL_law 326 = .ok (.iconst 1, 1) := by decide +kernel
theorem dL_law_327 : decode cL_law 327 = .ok (.iadd, 1) := by decide +kernel
theorem dL_law_328 : decode cL_law 328 = .ok (.iaload, 1) := by decide +kernel
theorem dL_law_329 : decode cL_law 329 = .ok (.aload_n 0, 1) := by decide +kernel
theorem dL_law_330 : decode cL_law 330 = .ok (.iload_n 3, 1) := by decide +kernel
theorem dL_law_331 : decode cL_law 331 = .ok (.iconst 2, 1) := by decide +kernel
theorem dL_law_332 : decode cL_law 332 = .ok (.iadd, 1) := by decide +kernel
theorem dL_law_333 : decode cL_law 333 = .ok (.iaload, 1) := by decide +kernel
theorem dL_law_334 : decode cL_law 334 = .ok (.invokevirtual 37, 3) := by decide +kernel
theorem dL_law_337 : decode cL_law 337 = .ok (.aload_n 2, 1) := by decide +kernel
theorem dL_law_338 : decode cL_law 338 = .ok (.aload_n 0, 1) := by decide +kernel
theorem dL_law_339 : decode cL_law 339 = .ok (.iload_n 3, 1) := by decide +kernel
theorem dL_law_340 : decode cL_law 340 = .ok (.iconst 1, 1) := by decide +kernel
theorem dL_law_341 : decode cL_law 341 = .ok (.iadd, 1) := by decide +kernel
theorem dL_law_342 : decode cL_law 342 = .ok (.iaload, 1) := by decide +kernel
theorem dL_law_343 : decode cL_law 343 = .ok (.aload_n 0, 1) := by decide +kernel
theorem dL_law_344 : decode cL_law 344 = .ok (.iload_n 3, 1) := by decide +kernel
theorem dL_law_345 : decode cL_law 345 = .ok (.iconst 2, 1) := by decide +kernel
theorem dL_law_346 : decode cL_law 346 = .ok (.iadd, 1) := by decide +kernel
theorem dL_law_347 : decode cL_law 347 = .ok (.iaload, 1) := by decide +kernel
theorem dL_law_348 : decode cL_law 348 = .ok (.invokevirtual 41, 3) := by decide +kernel
theorem dL_law_351 : decode cL_law 351 = .ok (.if_icmp .eq 957, 3) := by decide +kernel
theorem dL_law_354 : decode cL_law 354 = .ok (.iconst 0, 1) := by decide +kernel
theorem dL_law_355 : decode cL_law 355 = .ok (.ireturn, 1) := by decide +kernel
theorem dL_law_356 : decode cL_law 356 = .ok (.aload_n 1, 1) := by decide +kernel
theorem dL_law_357 : decode cL_law 357 = .ok (.aload_n 0, 1) := by decide +kernel
theorem dL_law_358 : decode cL_law 358 = .ok (.iload_n 3, 1) := by decide +kernel
theorem dL_law_359 : decode cL_law 359 = .ok (.iconst 1, 1) := by decide +kernel
theorem dL_law_360 : decode cL_law 360 = .ok (.iadd, 1) := by decide +kernel
theorem dL_law_361 : decode cL_law 361 = .ok (.iaload, 1) := by decide +kernel
theorem dL_law_362 : decode cL_law 362 = .ok (.aload_n 0, 1) := by decide +kernel
theorem dL_law_363 : decode cL_law 363 = .ok (.iload_n 3, 1) := by decide +kernel
theorem dL_law_364 : decode cL_law 364 = .ok (.iconst 2, 1) := by decide +kernel
theorem dL_law_365 : decode cL_law 365 = .ok (.iadd, 1) := by decide +kernel
theorem dL_law_366 : decode cL_law 366 = .ok (.iaload, 1) := by decide +kernel
theorem dL_law_367 : decode cL_law 367 = .ok (.invokevirtual 42, 3) := by decide +kernel
theorem dL_law_370 : decode cL_law 370 = .ok (.aload_n 2, 1) := by decide +kernel
theorem dL_law_371 : decode cL_law 371 = .ok (.aload_n 0, 1) := by decide +kernel
theorem dL_law_372 : decode cL_law 372 = .ok (.iload_n 3, 1) := by decide +kernel
theorem dL_law_373 : decode cL_law 373 = .ok (.iconst 1, 1) := by decide +kernel
theorem dL_law_374 : decode cL_law 374 = .ok (.iadd, 1) := by decide +kernel
theorem dL_law_375 : decode cL_law 375 = .ok (.iaload, 1) := by decide +kernel
theorem dL_law_376 : decode cL_law 376 = .ok (.aload_n 0, 1) := by decide +kernel
theorem dL_law_377 : decode cL_law 377 = .ok (.iload_n 3, 1) := by decide +kernel
theorem dL_law_378 : decode cL_law 378 = .ok (.iconst 2, 1) := by decide +kernel
theorem dL_law_379 : decode cL_law 379 = .ok (.iadd, 1) := by decide +kernel
theorem dL_law_380 : decode cL_law 380 = .ok (.iaload, 1) := by decide +kernel
theorem dL_law_381 : decode cL_law 381 = .ok (.invokevirtual 45, 3) := by decide +kernel
theorem dL_law_384 : decode cL_law 384 = .ok (.if_icmp .eq 924, 3) := by decide +kernel
theorem dL_law_387 : decode cL_law 387 = .ok (.iconst 0, 1) := by decide +kernel
theorem dL_law_388 : decode cL_law 388 = .ok (.ireturn, 1) := by decide +kernel
theorem dL_law_389 : decode cL_law 389 = .ok (.aload_n 1, 1) := by decide +kernel
theorem dL_law_390 : decode cL_law 390 = .ok (.aload_n 0, 1) := by decide +kernel
theorem dL_law_391 : decode cL_law 391 = .ok (.iload_n 3, 1) := by decide +kernel
theorem dL_law_392 : decode cL_law 392 = .ok (.iconst 1, 1) := by decide +kernel
theorem dL_law_393 : decode cL_law 393 = .ok (.iadd, 1) := by decide +kernel
theorem dL_law_394 : decode cL_law 394 = .ok (.iaload, 1) := by decide +kernel
theorem dL_law_395 : decode cL_law 395 = .ok (.aload_n 0, 1) := by decide +kernel
theorem dL_law_396 : decode cL_law 396 = .ok (.iload_n 3, 1) := by decide +kernel
theorem dL_law_397 : decode cL_law 397 = .ok (.iconst 2, 1) := by decide +kernel
theorem dL_law_398 : decode cL_law 398 = .ok (.iadd, 1) := by decide +kernel
theorem dL_law_399 : decode cL_law 399 = .ok (.iaload, 1) := by decide +kernel
theorem dL_law_400 : decode cL_law 400 = .ok (.aload_n 0, 1) := by decide +kernel
theorem dL_law_401 : decode cL_law 401 = .ok (.iload_n 3, 1) := by decide +kernel
theorem dL_law_402 : decode cL_law 402 = .ok (.iconst 3, 1) := by decide +kernel
theorem dL_law_403 : decode cL_law 403 = .ok (.iadd, 1) := by decide +kernel
theorem dL_law_404 : decode cL_law 404 = .ok (.iaload, 1) := by decide +kernel
theorem dL_law_405 : decode cL_law 405 = .ok (.invokevirtual 46, 3) := by decide +kernel
theorem dL_law_408 : decode cL_law 408 = .ok (.aload_n 2, 1) := by decide +kernel
theorem dL_law_409 : decode cL_law 409 = .ok (.aload_n 0, 1) := by decide +kernel
theorem dL_law_410 : decode cL_law 410 = .ok (.iload_n 3, 1) := by decide +kernel
theorem dL_law_411 : decode cL_law 411 = .ok (.iconst 1, 1) := by decide +kernel
theorem dL_law_412 : decode cL_law 412 = .ok (.iadd, 1) := by decide +kernel
theorem dL_law_413 : decode cL_law 413 = .ok (.iaload, 1) := by decide +kernel
theorem dL_law_414 : decode cL_law 414 = .ok (.aload_n 0, 1) := by decide +kernel
theorem dL_law_415 : decode cL_law 415 = .ok (.iload_n 3, 1) := by decide +kernel
theorem dL_law_416 : decode cL_law 416 = .ok (.iconst 2, 1) := by decide +kernel
theorem dL_law_417 : decode cL_law 417 = .ok (.iadd, 1) := by decide +kernel
theorem dL_law_418 : decode cL_law 418 = .ok (.iaload, 1) := by decide +kernel
theorem dL_law_419 : decode cL_law 419 = .ok (.aload_n 0, 1) := by decide +kernel
theorem dL_law_420 : decode cL_law 420 = .ok (.iload_n 3, 1) := by decide +kernel
theorem dL_law_421 : decode cL_law 421 = .ok (.iconst 3, 1) := by decide +kernel
theorem dL_law_422 : decode cL_law 422 = .ok (.iadd, 1) := by decide +kernel
theorem dL_law_423 : decode cL_law 423 = .ok (.iaload, 1) := by decide +kernel
theorem dL_law_424 : decode cL_law 424 = .ok (.invokevirtual 50, 3) := by decide +kernel
theorem dL_law_427 : decode cL_law 427 = .ok (.if_icmp .eq 881, 3) := by decide +kernel
theorem dL_law_430 : decode cL_law 430 = .ok (.iconst 0, 1) := by decide +kernel
theorem dL_law_431 : decode cL_law 431 = .ok (.ireturn, 1) := by decide +kernel
theorem dL_law_432 : decode cL_law 432 = .ok (.aload_n 1, 1) := by decide +kernel
theorem dL_law_433 : decode cL_law 433 = .ok (.aload_n 0, 1) := by decide +kernel
theorem dL_law_434 : decode cL_law 434 = .ok (.iload_n 3, 1) := by decide +kernel
theorem dL_law_435 : decode cL_law 435 = .ok (.iconst 1, 1) := by decide +kernel
theorem dL_law_436 : decode cL_law 436 = .ok (.iadd, 1) := by decide +kernel
theorem dL_law_437 : decode cL_law 437 = .ok (.iaload, 1) := by decide +kernel
theorem dL_law_438 : decode cL_law 438 = .ok (.invokevirtual 51, 3) := by decide +kernel
theorem dL_law_441 : decode cL_law 441 = .ok (.aload_n 2, 1) := by decide +kernel
theorem dL_law_442 : decode cL_law 442 = .ok (.aload_n 0, 1) := by decide +kernel
theorem dL_law_443 : decode cL_law 443 = .ok (.iload_n 3, 1) := by decide +kernel
theorem dL_law_444 : decode cL_law 444 = .ok (.iconst 1, 1) := by decide +kernel
theorem dL_law_445 : decode cL_law 445 = .ok (.iadd, 1) := by decide +kernel
theorem dL_law_446 : decode cL_law 446 = .ok (.iaload, 1) := by decide +kernel
theorem dL_law_447 : decode cL_law 447 = .ok (.invokevirtual 55, 3) := by decide +kernel
theorem dL_law_450 : decode cL_law 450 = .ok (.if_icmp .eq 858, 3) := by decide +kernel
theorem dL_law_453 : decode cL_law 453 = .ok (.iconst 0, 1) := by decide +kernel
theorem dL_law_454 : decode cL_law 454 = .ok (.ireturn, 1) := by decide +kernel
theorem dL_law_455 : decode cL_law 455 = .ok (.aload_n 1, 1) := by decide +kernel
theorem dL_law_456 : decode cL_law 456 = .ok (.aload_n 0, 1) := by decide +kernel
theorem dL_law_457 : decode cL_law 457 = .ok (.iload_n 3, 1) := by decide +kernel
theorem dL_law_458 : decode cL_law 458 = .ok (.iconst 1, 1) := by decide +kernel
theorem dL_law_459 : decode cL_law 459 = .ok (.iadd, 1) := by decide +kernel
theorem dL_law_460 : decode cL_law 460 = .ok (.iaload, 1) := by decide +kernel
theorem dL_law_461 : decode cL_law 461 = .ok (.aload_n 0, 1) := by decide +kernel
theorem dL_law_462 : decode cL_law 462 = .ok (.iload_n 3, 1) := by decide +kernel
theorem dL_law_463 : decode cL_law 463 = .ok (.iconst 2, 1) := by decide +kernel
theorem dL_law_464 : decode cL_law 464 = .ok (.iadd, 1) := by decide +kernel
theorem dL_law_465 : decode cL_law 465 = .ok (.iaload, 1) := by decide +kernel
theorem dL_law_466 : decode cL_law 466 = .ok (.invokevirtual 56, 3) := by decide +kernel
theorem dL_law_469 : decode cL_law 469 = .ok (.aload_n 2, 1) := by decide +kernel
theorem dL_law_470 : decode cL_law 470 = .ok (.aload_n 0, 1) := by decide +kernel
theorem dL_law_471 : decode cL_law 471 = .ok (.iload_n 3, 1) := by decide +kernel
theorem dL_law_472 : decode cL_law 472 = .ok (.iconst 1, 1) := by decide +kernel
theorem dL_law_473 : decode cL_law 473 = .ok (.iadd, 1) := by decide +kernel
theorem dL_law_474 : decode cL_law 474 = .ok (.iaload, 1) := by decide +kernel
theorem dL_law_475 : decode cL_law 475 = .ok (.aload_n 0, 1) := by decide +kernel
theorem dL_law_476 : decode cL_law 476 = .ok (.iload_n 3, 1) := by decide +kernel
theorem dL_law_477 : decode cL_law 477 = .ok (.iconst 2, 1) := by decide +kernel
theorem dL_law_478 : decode cL_law 478 = .ok (.iadd, 1) := by decide +kernel
theorem dL_law_479 : decode cL_law 479 = .ok (.iaload, 1) := by decide +kernel
theorem dL_law_480 : decode cL_law 480 = .ok (.invokevirtual 60, 3) := by decide +kernel
theorem dL_law_483 : decode cL_law 483 = .ok (.if_icmp .eq 825, 3) := by decide +kernel
theorem dL_law_486 : decode cL_law 486 = .ok (.iconst 0, 1) := by decide +kernel
theorem dL_law_487 : decode cL_law 487 = .ok (.ireturn, 1) := by decide +kernel
theorem dL_law_488 : decode cL_law 488 = .ok (.aload_n 1, 1) := by decide +kernel
theorem dL_law_489 : decode cL_law 489 = .ok (.aload_n 0, 1) := by decide +kernel
theorem dL_law_490 : decode cL_law 490 = .ok (.iload_n 3, 1) := by decide +kernel
theorem dL_law_491 : decode cL_law 491 = .ok (.iconst 1, 1) := by decide +kernel
theorem dL_law_492 : decode cL_law 492 = .ok (.iadd, 1) := by decide +kernel
theorem dL_law_493 : decode cL_law 493 = .ok (.iaload, 1) := by decide +kernel
theorem dL_law_494 : decode cL_law 494 = .ok (.aload_n 0, 1) := by decide +kernel
theorem dL_law_495 : decode cL_law 495 = .ok (.iload_n 3, 1) := by decide +kernel
theorem dL_law_496 : decode cL_law 496 = .ok (.iconst 2, 1) := by decide +kernel
theorem dL_law_497 : decode cL_law 497 = .ok (.iadd, 1) := by decide +kernel
theorem dL_law_498 : decode cL_law 498 = .ok (.iaload, 1) := by decide +kernel
theorem dL_law_499 : decode cL_law 499 = .ok (.invokevirtual 61, 3) := by decide +kernel
theorem dL_law_502 : decode cL_law 502 = .ok (.aload_n 2, 1) := by decide +kernel
theorem dL_law_503 : decode cL_law 503 = .ok (.aload_n 0, 1) := by decide +kernel
theorem dL_law_504 : decode cL_law 504 = .ok (.iload_n 3, 1) := by decide +kernel
theorem dL_law_505 : decode cL_law 505 = .ok (.iconst 1, 1) := by decide +kernel
theorem dL_law_506 : decode cL_law 506 = .ok (.iadd, 1) := by decide +kernel
theorem dL_law_507 : decode cL_law 507 = .ok (.iaload, 1) := by decide +kernel
theorem dL_law_508 : decode cL_law 508 = .ok (.aload_n 0, 1) := by decide +kernel
theorem dL_law_509 : decode cL_law 509 = .ok (.iload_n 3, 1) := by decide +kernel
theorem dL_law_510 : decode cL_law 510 = .ok (.iconst 2, 1) := by decide +kernel
theorem dL_law_511 : decode cL_law 511 = .ok (.iadd, 1) := by decide +kernel
theorem dL_law_512 : decode cL_law 512 = .ok (.iaload, 1) := by decide +kernel
theorem dL_law_513 : decode cL_law 513 = .ok (.invokevirtual 64, 3) := by decide +kernel
theorem dL_law_516 : decode cL_law 516 = .ok (.if_icmp .eq 792, 3) := by decide +kernel
theorem dL_law_519 : decode cL_law 519 = .ok (.iconst 0, 1) := by decide +kernel
theorem dL_law_520 : decode cL_law 520 = .ok (.ireturn, 1) := by decide +kernel
theorem dL_law_521 : decode cL_law 521 = .ok (.aload_n 1, 1) := by decide +kernel
theorem dL_law_522 : decode cL_law 522 = .ok (.aload_n 0, 1) := by decide +kernel
theorem dL_law_523 : decode cL_law 523 = .ok (.iload_n 3, 1) := by decide +kernel
theorem dL_law_524 : decode cL_law 524 = .ok (.iconst 1, 1) := by decide +kernel
theorem dL_law_525 : decode cL_law 525 = .ok (.iadd, 1) := by decide +kernel
theorem dL_law_526 : decode cL_law 526 = .ok (.iaload, 1) := by decide +kernel
theorem dL_law_527 : decode cL_law 527 = .ok (.aload_n 0, 1) := by decide +kernel
theorem dL_law_528 : decode cL_law 528 = .ok (.iload_n 3, 1) := by decide +kernel
theorem dL_law_529 : decode cL_law 529 = .ok (.iconst 2, 1) := by decide +kernel
theorem dL_law_530 : decode cL_law 530 = .ok (.iadd, 1) := by decide +kernel
theorem dL_law_531 : decode cL_law 531 = .ok (.iaload, 1) := by decide +kernel
theorem dL_law_532 : decode cL_law 532 = .ok (.invokevirtual 65, 3) := by decide +kernel
theorem dL_law_535 : decode cL_law 535 = .ok (.aload_n 2, 1) := by decide +kernel
theorem dL_law_536 : decode cL_law 536 = .ok (.aload_n 0, 1) := by decide +kernel
theorem dL_law_537 : decode cL_law 537 = .ok (.iload_n 3, 1) := by decide +kernel
theorem dL_law_538 : decode cL_law 538 = .ok (.iconst 1, 1) := by decide +kernel
theorem dL_law_539 : decode cL_law 539 = .ok (.iadd, 1) := by decide +kernel
theorem dL_law_540 : decode cL_law 540 = .ok (.iaload, 1) := by decide +kernel
theorem dL_law_541 : decode cL_law 541 = .ok (.aload_n 0, 1) := by decide +kernel
theorem dL_law_542 : decode cL_law 542 = .ok (.iload_n 3, 1) := by decide +kernel
theorem dL_law_543 : decode cL_law 543 = .ok (.iconst 2, 1) := by decide +kernel
theorem dL_law_544 : decode cL_law 544 = .ok (.iadd, 1) := by decide +kernel
theorem dL_law_545 : decode cL_law 545 = .ok (.iaload, 1) := by decide +kernel
theorem dL_law_546 : decode cL_law 546 = .ok (.invokevirtual 68, 3) := by decide +kernel
theorem dL_law_549 : decode cL_law 549 = .ok (.if_icmp .eq 759, 3) := by decide +kernel
theorem dL_law_552 : decode cL_law 552 = .ok (.iconst 0, 1) := by decide +kernel
theorem dL_law_553 : decode cL_law 553 = .ok (.ireturn, 1) := by decide +kernel
theorem dL_law_554 : decode cL_law 554 = .ok (.aload_n 1, 1) := by decide +kernel
theorem dL_law_555 : decode cL_law 555 = .ok (.aload_n 0, 1) := by decide +kernel
theorem dL_law_556 : decode cL_law 556 = .ok (.iload_n 3, 1) := by decide +kernel
theorem dL_law_557 : decode cL_law 557 = .ok (.iconst 1, 1) := by decide +kernel
theorem dL_law_558 : decode cL_law 558 = .ok (.iadd, 1) := by decide +kernel
theorem dL_law_559 : decode cL_law 559 = .ok (.iaload, 1) := by decide +kernel
theorem dL_law_560 : decode cL_law 560 = .ok (.aload_n 0, 1) := by decide +kernel
theorem dL_law_561 : decode cL_law 561 = .ok (.iload_n 3, 1) := by decide +kernel
theorem dL_law_562 : decode cL_law 562 = .ok (.iconst 2, 1) := by decide +kernel
theorem dL_law_563 : decode cL_law 563 = .ok (.iadd, 1) := by decide +kernel
theorem dL_law_564 : decode cL_law 564 = .ok (.iaload, 1) := by decide +kernel
theorem dL_law_565 : decode cL_law 565 = .ok (.aload_n 0, 1) := by decide +kernel
theorem dL_law_566 : decode cL_law 566 = .ok (.iload_n 3, 1) := by decide +kernel
theorem dL_law_567 : decode cL_law 567 = .ok (.iconst 3, 1) := by decide +kernel
theorem dL_law_568 : decode cL_law 568 = .ok (.iadd, 1) := by decide +kernel
theorem dL_law_569 : decode cL_law 569 = .ok (.iaload, 1) := by decide +kernel
theorem dL_law_570 : decode cL_law 570 = .ok (.invokevirtual 69, 3) := by decide +kernel
theorem dL_law_573 : decode cL_law 573 = .ok (.aload_n 2, 1) := by decide +kernel
theorem dL_law_574 : decode cL_law 574 = .ok (.aload_n 0, 1) := by decide +kernel
theorem dL_law_575 : decode cL_law 575 = .ok (.iload_n 3, 1) := by decide +kernel
theorem dL_law_576 : decode cL_law 576 = .ok (.iconst 1, 1) := by decide +kernel
theorem dL_law_577 : decode cL_law 577 = .ok (.iadd, 1) := by decide +kernel
theorem dL_law_578 : decode cL_law 578 = .ok (.iaload, 1) := by decide +kernel
theorem dL_law_579 : decode cL_law 579 = .ok (.aload_n 0, 1) := by decide +kernel
theorem dL_law_580 : decode cL_law 580 = .ok (.iload_n 3, 1) := by decide +kernel
theorem dL_law_581 : decode cL_law 581 = .ok (.iconst 2, 1) := by decide +kernel
theorem dL_law_582 : decode cL_law 582 = .ok (.iadd, 1) := by decide +kernel
theorem dL_law_583 : decode cL_law 583 = .ok (.iaload, 1) := by decide +kernel
theorem dL_law_584 : decode cL_law 584 = .ok (.aload_n 0, 1) := by decide +kernel
theorem dL_law_585 : decode cL_law 585 = .ok (.iload_n 3, 1) := by decide +kernel
theorem dL_law_586 : decode cL_law 586 = .ok (.iconst 3, 1) := by decide +kernel
theorem dL_law_587 : decode cL_law 587 = .ok (.iadd, 1) := by decide +kernel
theorem dL_law_588 : decode cL_law 588 = .ok (.iaload, 1) := by decide +kernel
theorem dL_law_589 : decode cL_law 589 = .ok (.invokevirtual 72, 3) := by decide +kernel
theorem dL_law_592 : decode cL_law 592 = .ok (.if_icmp .eq 716, 3) := by decide +kernel
theorem dL_law_595 : decode cL_law 595 = .ok (.iconst 0, 1) := by decide +kernel
theorem dL_law_596 : decode cL_law 596 = .ok (.ireturn, 1) := by decide +kernel
theorem dL_law_597 : decode cL_law 597 = .ok (.aload_n 1, 1) := by decide +kernel
theorem dL_law_598 : decode cL_law 598 = .ok (.aload_n 0, 1) := by decide +kernel
theorem dL_law_599 : decode cL_law 599 = .ok (.iload_n 3, 1) := by decide +kernel
theorem dL_law_600 : decode cL_law 600 = .ok (.iconst 1, 1) := by decide +kernel
theorem dL_law_601 : decode cL_law 601 = .ok (.iadd, 1) := by decide +kernel
theorem dL_law_602 : decode cL_law 602 = .ok (.iaload, 1) := by decide +kernel
theorem dL_law_603 : decode cL_law 603 = .ok (.aload_n 0, 1) := by decide +kernel
theorem dL_law_604 : decode cL_law 604 = .ok (.iload_n 3, 1) := by decide +kernel
theorem dL_law_605 : decode cL_law 605 = .ok (.iconst 2, 1) := by decide +kernel
theorem dL_law_606 : decode cL_law 606 = .ok (.iadd, 1) := by decide +kernel
theorem dL_law_607 : decode cL_law 607 = .ok (.iaload, 1) := by decide +kernel
theorem dL_law_608 : decode cL_law 608 = .ok (.aload_n 0, 1) := by decide +kernel
theorem dL_law_609 : decode cL_law 609 = .ok (.iload_n 3, 1) := by decide +kernel
theorem dL_law_610 : decode cL_law 610 = .ok (.iconst 3, 1) := by decide +kernel
theorem dL_law_611 : decode cL_law 611 = .ok (.iadd, 1) := by decide +kernel
theorem dL_law_612 : decode cL_law 612 = .ok (.iaload, 1) := by decide +kernel
theorem dL_law_613 : decode cL_law 613 = .ok (.invokevirtual 73, 3) := by decide +kernel
theorem dL_law_616 : decode cL_law 616 = .ok (.aload_n 2, 1) := by decide +kernel
theorem dL_law_617 : decode cL_law 617 = .ok (.aload_n 0, 1) := by decide +kernel
theorem dL_law_618 : decode cL_law 618 = .ok (.iload_n 3, 1) := by decide +kernel
theorem dL_law_619 : decode cL_law 619 = .ok (.iconst 1, 1) := by decide +kernel
theorem dL_law_620 : decode cL_law 620 = .ok (.iadd, 1) := by decide +kernel
theorem dL_law_621 : decode cL_law 621 = .ok (.iaload, 1) := by decide +kernel
theorem dL_law_622 : decode cL_law 622 = .ok (.aload_n 0, 1) := by decide +kernel
theorem dL_law_623 : decode cL_law 623 = .ok (.iload_n 3, 1) := by decide +kernel
theorem dL_law_624 : decode cL_law 624 = .ok (.iconst 2, 1) := by decide +kernel
theorem dL_law_625 : decode cL_law 625 = .ok (.iadd, 1) := by decide +kernel
theorem dL_law_626 : decode cL_law 626 = .ok (.iaload, 1) := by decide +kernel
theorem dL_law_627 : decode cL_law 627 = .ok (.aload_n 0, 1) := by decide +kernel
theorem dL_law_628 : decode cL_law 628 = .ok (.iload_n 3, 1) := by decide +kernel
theorem dL_law_629 : decode cL_law 629 = .ok (.iconst 3, 1) := by decide +kernel
theorem dL_law_630 : decode cL_law 630 = .ok (.iadd, 1) := by decide +kernel
theorem dL_law_631 : decode cL_law 631 = .ok (.iaload, 1) := by decide +kernel
theorem dL_law_632 : decode cL_law 632 = .ok (.invokevirtual 76, 3) := by decide +kernel
theorem dL_law_635 : decode cL_law 635 = .ok (.if_icmp .eq 673, 3) := by decide +kernel
theorem dL_law_638 : decode cL_law 638 = .ok (.iconst 0, 1) := by decide +kernel
theorem dL_law_639 : decode cL_law 639 = .ok (.ireturn, 1) := by decide +kernel
theorem dL_law_640 : decode cL_law 640 = .ok (.aload_n 1, 1) := by decide +kernel
theorem dL_law_641 : decode cL_law 641 = .ok (.aload_n 0, 1) := by decide +kernel
theorem dL_law_642 : decode cL_law 642 = .ok (.iload_n 3, 1) := by decide +kernel
theorem dL_law_643 : decode cL_law 643 = .ok (.iconst 1, 1) := by decide +kernel
theorem dL_law_644 : decode cL_law 644 = .ok (.iadd, 1) := by decide +kernel
theorem dL_law_645 : decode cL_law 645 = .ok (.iaload, 1) := by decide +kernel
theorem dL_law_646 : decode cL_law 646 = .ok (.aload_n 0, 1) := by decide +kernel
theorem dL_law_647 : decode cL_law 647 = .ok (.iload_n 3, 1) := by decide +kernel
theorem dL_law_648 : decode cL_law 648 = .ok (.iconst 2, 1) := by decide +kernel
theorem dL_law_649 : decode cL_law 649 = .ok (.iadd, 1) := by decide +kernel
theorem dL_law_650 : decode cL_law 650 = .ok (.iaload, 1) := by decide +kernel
theorem dL_law_651 : decode cL_law 651 = .ok (.aload_n 0, 1) := by decide +kernel
theorem dL_law_652 : decode cL_law 652 = .ok (.iload_n 3, 1) := by decide +kernel
theorem dL_law_653 : decode cL_law 653 = .ok (.iconst 3, 1) := by decide +kernel
theorem dL_law_654 : decode cL_law 654 = .ok (.iadd, 1) := by decide +kernel
theorem dL_law_655 : decode cL_law 655 = .ok (.iaload, 1) := by decide +kernel
theorem dL_law_656 : decode cL_law 656 = .ok (.invokevirtual 77, 3) := by decide +kernel
theorem dL_law_659 : decode cL_law 659 = .ok (.aload_n 2, 1) := by decide +kernel
theorem dL_law_660 : decode cL_law 660 = .ok (.aload_n 0, 1) := by decide +kernel
theorem dL_law_661 : decode cL_law 661 = .ok (.iload_n 3, 1) := by decide +kernel
theorem dL_law_662 : decode cL_law 662 = .ok (.iconst 1, 1) := by decide +kernel
theorem dL_law_663 : decode cL_law 663 = .ok (.iadd, 1) := by decide +kernel
theorem dL_law_664 : decode cL_law 664 = .ok (.iaload, 1) := by decide +kernel
theorem dL_law_665 : decode cL_law 665 = .ok (.aload_n 0, 1) := by decide +kernel
theorem dL_law_666 : decode cL_law 666 = .ok (.iload_n 3, 1) := by decide +kernel
theorem dL_law_667 : decode cL_law 667 = .ok (.iconst 2, 1) := by decide +kernel
theorem dL_law_668 : decode cL_law 668 = .ok (.iadd, 1) := by decide +kernel
theorem dL_law_669 : decode cL_law 669 = .ok (.iaload, 1) := by decide +kernel
theorem dL_law_670 : decode cL_law 670 = .ok (.aload_n 0, 1) := by decide +kernel
theorem dL_law_671 : decode cL_law 671 = .ok (.iload_n 3, 1) := by decide +kernel
theorem dL_law_672 : decode cL_law 672 = .ok (.iconst 3, 1) := by decide +kernel
theorem dL_law_673 : decode cL_law 673 = .ok (.iadd, 1) := by decide +kernel
theorem dL_law_674 : decode cL_law 674 = .ok (.iaload, 1) := by decide +kernel
theorem dL_law_675 : decode cL_law 675 = .ok (.invokevirtual 80, 3) := by decide +kernel
theorem dL_law_678 : decode cL_law 678 = .ok (.if_icmp .eq 630, 3) := by decide +kernel
theorem dL_law_681 : decode cL_law 681 = .ok (.iconst 0, 1) := by decide +kernel
theorem dL_law_682 : decode cL_law 682 = .ok (.ireturn, 1) := by decide +kernel
theorem dL_law_683 : decode cL_law 683 = .ok (.aload_n 1, 1) := by decide +kernel
theorem dL_law_684 : decode cL_law 684 = .ok (.aload_n 0, 1) := by decide +kernel
theorem dL_law_685 : decode cL_law 685 = .ok (.iload_n 3, 1) := by decide +kernel
theorem dL_law_686 : decode cL_law 686 = .ok (.iconst 1, 1) := by decide +kernel
theorem dL_law_687 : decode cL_law 687 = .ok (.iadd, 1) := by decide +kernel
theorem dL_law_688 : decode cL_law 688 = .ok (.iaload, 1) := by decide +kernel
theorem dL_law_689 : decode cL_law 689 = .ok (.aload_n 0, 1) := by decide +kernel
theorem dL_law_690 : decode cL_law 690 = .ok (.iload_n 3, 1) := by decide +kernel
theorem dL_law_691 : decode cL_law 691 = .ok (.iconst 2, 1) := by decide +kernel
theorem dL_law_692 : decode cL_law 692 = .ok (.iadd, 1) := by decide +kernel
theorem dL_law_693 : decode cL_law 693 = .ok (.iaload, 1) := by decide +kernel
theorem dL_law_694 : decode cL_law 694 = .ok (.aload_n 0, 1) := by decide +kernel
theorem dL_law_695 : decode cL_law 695 = .ok (.iload_n 3, 1) := by decide +kernel
theorem dL_law_696 : decode cL_law 696 = .ok (.iconst 3, 1) := by decide +kernel
theorem dL_law_697 : decode cL_law 697 = .ok (.iadd, 1) := by decide +kernel
theorem dL_law_698 : decode cL_law 698 = .ok (.iaload, 1) := by decide +kernel
theorem dL_law_699 : decode cL_law 699 = .ok (.aload_n 0, 1) := by decide +kernel
theorem dL_law_700 : decode cL_law 700 = .ok (.iload_n 3, 1) := by decide +kernel
theorem dL_law_701 : decode cL_law 701 = .ok (.iconst 4, 1) := by decide +kernel
theorem dL_law_702 : decode cL_law 702 = .ok (.iadd, 1) := by decide +kernel
theorem dL_law_703 : decode cL_law 703 = .ok (.iaload, 1) := by decide +kernel
theorem dL_law_704 : decode cL_law 704 = .ok (.invokevirtual 81, 3) := by decide +kernel
theorem dL_law_707 : decode cL_law 707 = .ok (.aload_n 2, 1) := by decide +kernel
theorem dL_law_708 : decode cL_law 708 = .ok (.aload_n 0, 1) := by decide +kernel
theorem dL_law_709 : decode cL_law 709 = .ok (.iload_n 3, 1) := by decide +kernel
theorem dL_law_710 : decode cL_law 710 = .ok (.iconst 1, 1) := by decide +kernel
theorem dL_law_711 : decode cL_law 711 = .ok (.iadd, 1) := by decide +kernel
theorem dL_law_712 : decode cL_law 712 = .ok (.iaload, 1) := by decide +kernel
theorem dL_law_713 : decode cL_law 713 = .ok (.aload_n 0, 1) := by decide +kernel
theorem dL_law_714 : decode cL_law 714 = .ok (.iload_n 3, 1) := by decide +kernel
theorem dL_law_715 : decode cL_law 715 = .ok (.iconst 2, 1) := by decide +kernel
theorem dL_law_716 : decode cL_law 716 = .ok (.iadd, 1) := by decide +kernel
theorem dL_law_717 : decode cL_law 717 = .ok (.iaload, 1) := by decide +kernel
theorem dL_law_718 : decode cL_law 718 = .ok (.aload_n 0, 1) := by decide +kernel
theorem dL_law_719 : decode cL_law 719 = .ok (.iload_n 3, 1) := by decide +kernel
theorem dL_law_720 : decode cL_law 720 = .ok (.iconst 3, 1) := by decide +kernel
theorem dL_law_721 : decode cL_law 721 = .ok (.iadd, 1) := by decide +kernel
theorem dL_law_722 : decode cL_law 722 = .ok (.iaload, 1) := by decide +kernel
theorem dL_law_723 : decode cL_law 723 = .ok (.aload_n 0, 1) := by decide +kernel
theorem dL_law_724 : decode cL_law 724 = .ok (.iload_n 3, 1) := by decide +kernel
theorem dL_law_725 : decode cL_law 725 = .ok (.iconst 4, 1) := by decide +kernel
theorem dL_law_726 : decode cL_law 726 = .ok (.iadd, 1) := by decide +kernel
theorem dL_law_727 : decode cL_law 727 = .ok (.iaload, 1) := by decide +kernel
theorem dL_law_728 : decode cL_law 728 = .ok (.invokevirtual 85, 3) := by decide +kernel
theorem dL_law_731 : decode cL_law 731 = .ok (.if_icmp .eq 577, 3) := by decide +kernel
theorem dL_law_734 : decode cL_law 734 = .ok (.iconst 0, 1) := by decide +kernel
theorem dL_law_735 : decode cL_law 735 = .ok (.ireturn, 1) := by decide +kernel
theorem dL_law_736 : decode cL_law 736 = .ok (.aload_n 1, 1) := by decide +kernel
theorem dL_law_737 : decode cL_law 737 = .ok (.aload_n 0, 1) := by decide +kernel
theorem dL_law_738 : decode cL_law 738 = .ok (.iload_n 3, 1) := by decide +kernel
theorem dL_law_739 : decode cL_law 739 = .ok (.iconst 1, 1) := by decide +kernel
theorem dL_law_740 : decode cL_law 740 = .ok (.iadd, 1) := by decide +kernel
theorem dL_law_741 : decode cL_law 741 = .ok (.iaload, 1) := by decide +kernel
theorem dL_law_742 : decode cL_law 742 = .ok (.aload_n 0, 1) := by decide +kernel
theorem dL_law_743 : decode cL_law 743 = .ok (.iload_n 3, 1) := by decide +kernel
theorem dL_law_744 : decode cL_law 744 = .ok (.iconst 2, 1) := by decide +kernel
theorem dL_law_745 : decode cL_law 745 = .ok (.iadd, 1) := by decide +kernel
theorem dL_law_746 : decode cL_law 746 = .ok (.iaload, 1) := by decide +kernel
theorem dL_law_747 : decode cL_law 747 = .ok (.aload_n 0, 1) := by decide +kernel
theorem dL_law_748 : decode cL_law 748 = .ok (.iload_n 3, 1) := by decide +kernel
theorem dL_law_749 : decode cL_law 749 = .ok (.iconst 3, 1) := by decide +kernel
theorem dL_law_750 : decode cL_law 750 = .ok (.iadd, 1) := by decide +kernel
theorem dL_law_751 : decode cL_law 751 = .ok (.iaload, 1) := by decide +kernel
theorem dL_law_752 : decode cL_law 752 = .ok (.invokevirtual 86, 3) := by decide +kernel
theorem dL_law_755 : decode cL_law 755 = .ok (.aload_n 2, 1) := by decide +kernel
theorem dL_law_756 : decode cL_law 756 = .ok (.aload_n 0, 1) := by decide +kernel
theorem dL_law_757 : decode cL_law 757 = .ok (.iload_n 3, 1) := by decide +kernel
theorem dL_law_758 : decode cL_law 758 = .ok (.iconst 1, 1) := by decide +kernel
theorem dL_law_759 : decode cL_law 759 = .ok (.iadd, 1) := by decide +kernel
theorem dL_law_760 : decode cL_law 760 = .ok (.iaload, 1) := by decide +kernel
theorem dL_law_761 : decode cL_law 761 = .ok (.aload_n 0, 1) := by decide +kernel
theorem dL_law_762 : decode cL_law 762 = .ok (.iload_n 3, 1) := by decide +kernel
theorem dL_law_763 : decode cL_law 763 = .ok (.iconst 2, 1) := by decide +kernel
theorem dL_law_764 : decode cL_law 764 = .ok (.iadd, 1) := by decide +kernel
theorem dL_law_765 : decode cL_law 765 = .ok (.iaload, 1) := by decide +kernel
theorem dL_law_766 : decode cL_law 766 = .ok (.aload_n 0, 1) := by decide +kernel
theorem dL_law_767 : decode cL_law 767 = .ok (.iload_n 3, 1) := by decide +kernel
theorem dL_law_768 : decode cL_law 768 = .ok (.iconst 3, 1) := by decide +kernel
theorem dL_law_769 : decode cL_law 769 = .ok (.iadd, 1) := by decide +kernel
theorem dL_law_770 : decode cL_law 770 = .ok (.iaload, 1) := by decide +kernel
theorem dL_law_771 : decode cL_law 771 = .ok (.invokevirtual 89, 3) := by decide +kernel
theorem dL_law_774 : decode cL_law 774 = .ok (.if_icmp .eq 534, 3) := by decide +kernel
theorem dL_law_777 : decode cL_law 777 = .ok (.iconst 0, 1) := by decide +kernel
theorem dL_law_778 : decode cL_law 778 = .ok (.ireturn, 1) := by decide +kernel
theorem dL_law_779 : decode cL_law 779 = .ok (.aload_n 1, 1) := by decide +kernel
theorem dL_law_780 : decode cL_law 780 = .ok (.aload_n 0, 1) := by decide +kernel
theorem dL_law_781 : decode cL_law 781 = .ok (.iload_n 3, 1) := by decide +kernel
theorem dL_law_782 : decode cL_law 782 = .ok (.iconst 1, 1) := by decide +kernel
theorem dL_law_783 : decode cL_law 783 = .ok (.iadd, 1) := by decide +kernel
theorem dL_law_784 : decode cL_law 784 = .ok (.iaload, 1) := by decide +kernel
theorem dL_law_785 : decode cL_law 785 = .ok (.aload_n 0, 1) := by decide +kernel
theorem dL_law_786 : decode cL_law 786 = .ok (.iload_n 3, 1) := by decide +kernel
theorem dL_law_787 : decode cL_law 787 = .ok (.iconst 2, 1) := by decide +kernel
theorem dL_law_788 : decode cL_law 788 = .ok (.iadd, 1) := by decide +kernel
theorem dL_law_789 : decode cL_law 789 = .ok (.iaload, 1) := by decide +kernel
theorem dL_law_790 : decode cL_law 790 = .ok (.aload_n 0, 1) := by decide +kernel
theorem dL_law_791 : decode cL_law 791 = .ok (.iload_n 3, 1) := by decide +kernel
theorem dL_law_792 : decode cL_law 792 = .ok (.iconst 3, 1) := by decide +kernel
theorem dL_law_793 : decode cL_law 793 = .ok (.iadd, 1) := by decide +kernel
theorem dL_law_794 : decode cL_law 794 = .ok (.iaload, 1) := by decide +kernel
theorem dL_law_795 : decode cL_law 795 = .ok (.invokevirtual 90, 3) := by decide +kernel
theorem dL_law_798 : decode cL_law 798 = .ok (.aload_n 2, 1) := by decide +kernel
theorem dL_law_799 : decode cL_law 799 = .ok (.aload_n 0, 1) := by decide +kernel
theorem dL_law_800 : decode cL_law 800 = .ok (.iload_n 3, 1) := by decide +kernel
theorem dL_law_801 : decode cL_law 801 = .ok (.iconst 1, 1) := by decide +kernel
theorem dL_law_802 : decode cL_law 802 = .ok (.iadd, 1) := by decide +kernel
theorem dL_law_803 : decode cL_law 803 = .ok (.iaload, 1) := by decide +kernel
theorem dL_law_804 : decode cL_law 804 = .ok (.aload_n 0, 1) := by decide +kernel
theorem dL_law_805 : decode cL_law 805 = .ok (.iload_n 3, 1) := by decide +kernel
theorem dL_law_806 : decode cL_law 806 = .ok (.iconst 2, 1) := by decide +kernel
theorem dL_law_807 : decode cL_law 807 = .ok (.iadd, 1) := by decide +kernel
theorem dL_law_808 : decode cL_law 808 = .ok (.iaload, 1) := by decide +kernel
theorem dL_law_809 : decode cL_law 809 = .ok (.aload_n 0, 1) := by decide +kernel
theorem dL_law_810 : decode cL_law 810 = .ok (.iload_n 3, 1) := by decide +kernel
theorem dL_law_811 : decode cL_law 811 = .ok (.iconst 3, 1) := by decide +kernel
theorem dL_law_812 : decode cL_law 812 = .ok (.iadd, 1) := by decide +kernel
theorem dL_law_813 : decode cL_law 813 = .ok (.iaload, 1) := by decide +kernel
theorem dL_law_814 : decode cL_law 814 = .ok (.invokevirtual 93, 3) := by decide +kernel
theorem dL_law_817 : decode cL_law 817 = .ok (.if_icmp .eq 491, 3) := by decide +kernel
theorem dL_law_820 : decode cL_law 820 = .ok (.iconst 0, 1) := by decide +kernel
theorem dL_law_821 : decode cL_law 821 = .ok (.ireturn, 1) := by decide +kernel
theorem dL_law_822 : decode cL_law 822 = .ok (.aload_n 1, 1) := by decide +kernel
theorem dL_law_823 : decode cL_law 823 = .ok (.aload_n 0, 1) := by decide +kernel
theorem dL_law_824 : decode cL_law 824 = .ok (.iload_n 3, 1) := by decide +kernel
theorem dL_law_825 : decode cL_law 825 = .ok (.iconst 1, 1) := by decide +kernel
theorem dL_law_826 : decode cL_law 826 = .ok (.iadd, 1) := by decide +kernel
theorem dL_law_827 : decode cL_law 827 = .ok (.iaload, 1) := by decide +kernel
theorem dL_law_828 : decode cL_law 828 = .ok (.aload_n 0, 1) := by decide +kernel
theorem dL_law_829 : decode cL_law 829 = .ok (.iload_n 3, 1) := by decide +kernel
theorem dL_law_830 : decode cL_law 830 = .ok (.iconst 2, 1) := by decide +kernel
theorem dL_law_831 : decode cL_law 831 = .ok (.iadd, 1) := by decide +kernel
theorem dL_law_832 : decode cL_law 832 = .ok (.iaload, 1) := by decide +kernel
theorem dL_law_833 : decode cL_law 833 = .ok (.aload_n 0, 1) := by decide +kernel
theorem dL_law_834 : decode cL_law 834 = .ok (.iload_n 3, 1) := by decide +kernel
theorem dL_law_835 : decode cL_law 835 = .ok (.iconst 3, 1) := by decide +kernel
theorem dL_law_836 : decode cL_law 836 = .ok (.iadd, 1) := by decide +kernel
theorem dL_law_837 : decode cL_law 837 = .ok (.iaload, 1) := by decide +kernel
theorem dL_law_838 : decode cL_law 838 = .ok (.invokevirtual 94, 3) := by decide +kernel
theorem dL_law_841 : decode cL_law 841 = .ok (.aload_n 2, 1) := by decide +kernel
theorem dL_law_842 : decode cL_law 842 = .ok (.aload_n 0, 1) := by decide +kernel
theorem dL_law_843 : decode cL_law 843 = .ok (.iload_n 3, 1) := by decide +kernel
theorem dL_law_844 : decode cL_law 844 = .ok (.iconst 1, 1) := by decide +kernel
theorem dL_law_845 : decode cL_law 845 = .ok (.iadd, 1) := by decide +kernel
theorem dL_law_846 : decode cL_law 846 = .ok (.iaload, 1) := by decide +kernel
theorem dL_law_847 : decode cL_law 847 = .ok (.aload_n 0, 1) := by decide +kernel
theorem dL_law_848 : decode cL_law 848 = .ok (.iload_n 3, 1) := by decide +kernel
theorem dL_law_849 : decode cL_law 849 = .ok (.iconst 2, 1) := by decide +kernel
theorem dL_law_850 : decode cL_law 850 = .ok (.iadd, 1) := by decide +kernel
theorem dL_law_851 : decode cL_law 851 = .ok (.iaload, 1) := by decide +kernel
theorem dL_law_852 : decode cL_law 852 = .ok (.aload_n 0, 1) := by decide +kernel
theorem dL_law_853 : decode cL_law 853 = .ok (.iload_n 3, 1) := by decide +kernel
theorem dL_law_854 : decode cL_law 854 = .ok (.iconst 3, 1) := by decide +kernel
theorem dL_law_855 : decode cL_law 855 = .ok (.iadd, 1) := by decide +kernel
theorem dL_law_856 : decode cL_law 856 = .ok (.iaload, 1) := by decide +kernel
theorem dL_law_857 : decode cL_law 857 = .ok (.invokevirtual 97, 3) := by decide +kernel
theorem dL_law_860 : decode cL_law 860 = .ok (.if_icmp .eq 448, 3) := by decide +kernel
theorem dL_law_863 : decode cL_law 863 = .ok (.iconst 0, 1) := by decide +kernel
theorem dL_law_864 : decode cL_law 864 = .ok (.ireturn, 1) := by decide +kernel
theorem dL_law_865 : decode cL_law 865 = .ok (.aload_n 1, 1) := by decide +kernel
theorem dL_law_866 : decode cL_law 866 = .ok (.aload_n 0, 1) := by decide +kernel
theorem dL_law_867 : decode cL_law 867 = .ok (.iload_n 3, 1) := by decide +kernel
theorem dL_law_868 : decode cL_law 868 = .ok (.iconst 1, 1) := by decide +kernel
theorem dL_law_869 : decode cL_law 869 = .ok (.iadd, 1) := by decide +kernel
theorem dL_law_870 : decode cL_law 870 = .ok (.iaload, 1) := by decide +kernel
theorem dL_law_871 : decode cL_law 871 = .ok (.aload_n 0, 1) := by decide +kernel
theorem dL_law_872 : decode cL_law 872 = .ok (.iload_n 3, 1) := by decide +kernel
theorem dL_law_873 : decode cL_law 873 = .ok (.iconst 2, 1) := by decide +kernel
theorem dL_law_874 : decode cL_law 874 = .ok (.iadd, 1) := by decide +kernel
theorem dL_law_875 : decode cL_law 875 = .ok (.iaload, 1) := by decide +kernel
theorem dL_law_876 : decode cL_law 876 = .ok (.invokevirtual 98, 3) := by decide +kernel
theorem dL_law_879 : decode cL_law 879 = .ok (.aload_n 2, 1) := by decide +kernel
theorem dL_law_880 : decode cL_law 880 = .ok (.aload_n 0, 1) := by decide +kernel
theorem dL_law_881 : decode cL_law 881 = .ok (.iload_n 3, 1) := by decide +kernel
theorem dL_law_882 : decode cL_law 882 = .ok (.iconst 1, 1) := by decide +kernel
theorem dL_law_883 : decode cL_law 883 = .ok (.iadd, 1) := by decide +kernel
theorem dL_law_884 : decode cL_law 884 = .ok (.iaload, 1) := by decide +kernel
theorem dL_law_885 : decode cL_law 885 = .ok (.aload_n 0, 1) := by decide +kernel
theorem dL_law_886 : decode cL_law 886 = .ok (.iload_n 3, 1) := by decide +kernel
theorem dL_law_887 : decode cL_law 887 = .ok (.iconst 2, 1) := by decide +kernel
theorem dL_law_888 : decode cL_law 888 = .ok (.iadd, 1) := by decide +kernel
theorem dL_law_889 : decode cL_law 889 = .ok (.iaload, 1) := by decide +kernel
theorem dL_law_890 : decode cL_law 890 = .ok (.invokevirtual 101, 3) := by decide +kernel
theorem dL_law_893 : decode cL_law 893 = .ok (.if_icmp .eq 415, 3) := by decide +kernel
theorem dL_law_896 : decode cL_law 896 = .ok (.iconst 0, 1) := by decide +kernel
theorem dL_law_897 : decode cL_law 897 = .ok (.ireturn, 1) := by decide +kernel
theorem dL_law_898 : decode cL_law 898 = .ok (.aload_n 1, 1) := by decide +kernel
theorem dL_law_899 : decode cL_law 899 = .ok (.aload_n 0, 1) := by decide +kernel
theorem dL_law_900 : decode cL_law 900 = .ok (.iload_n 3, 1) := by decide +kernel
theorem dL_law_901 : decode cL_law 901 = .ok (.iconst 1, 1) := by decide +kernel
theorem dL_law_902 : decode cL_law 902 = .ok (.iadd, 1) := by decide +kernel
theorem dL_law_903 : decode cL_law 903 = .ok (.iaload, 1) := by decide +kernel
theorem dL_law_904 : decode cL_law 904 = .ok (.aload_n 0, 1) := by decide +kernel
theorem dL_law_905 : decode cL_law 905 = .ok (.iload_n 3, 1) := by decide +kernel
theorem dL_law_906 : decode cL_law 906 = .ok (.iconst 2, 1) := by decide +kernel
theorem dL_law_907 : decode cL_law 907 = .ok (.iadd, 1) := by decide +kernel
theorem dL_law_908 : decode cL_law 908 = .ok (.iaload, 1) := by decide +kernel
theorem dL_law_909 : decode cL_law 909 = .ok (.aload_n 0, 1) := by decide +kernel
theorem dL_law_910 : decode cL_law 910 = .ok (.iload_n 3, 1) := by decide +kernel
theorem dL_law_911 : decode cL_law 911 = .ok (.iconst 3, 1) := by decide +kernel
theorem dL_law_912 : decode cL_law 912 = .ok (.iadd, 1) := by decide +kernel
theorem dL_law_913 : decode cL_law 913 = .ok (.iaload, 1) := by decide +kernel
theorem dL_law_914 : decode cL_law 914 = .ok (.aload_n 0, 1) := by decide +kernel
theorem dL_law_915 : decode cL_law 915 = .ok (.iload_n 3, 1) := by decide +kernel
theorem dL_law_916 : decode cL_law 916 = .ok (.iconst 4, 1) := by decide +kernel
theorem dL_law_917 : decode cL_law 917 = .ok (.iadd, 1) := by decide +kernel
theorem dL_law_918 : decode cL_law 918 = .ok (.iaload, 1) := by decide +kernel
theorem dL_law_919 : decode cL_law 919 = .ok (.aload_n 0, 1) := by decide +kernel
theorem dL_law_920 : decode cL_law 920 = .ok (.iload_n 3, 1) := by decide +kernel
theorem dL_law_921 : decode cL_law 921 = .ok (.iconst 5, 1) := by decide +kernel
theorem dL_law_922 : decode cL_law 922 = .ok (.iadd, 1) := by decide +kernel
theorem dL_law_923 : decode cL_law 923 = .ok (.iaload, 1) := by decide +kernel
theorem dL_law_924 : decode cL_law 924 = .ok (.invokevirtual 102, 3) := by decide +kernel
theorem dL_law_927 : decode cL_law 927 = .ok (.aload_n 2, 1) := by decide +kernel
theorem dL_law_928 : decode cL_law 928 = .ok (.aload_n 0, 1) := by decide +kernel
theorem dL_law_929 : decode cL_law 929 = .ok (.iload_n 3, 1) := by decide +kernel
theorem dL_law_930 : decode cL_law 930 = .ok (.iconst 1, 1) := by decide +kernel
theorem dL_law_931 : decode cL_law 931 = .ok (.iadd, 1) := by decide +kernel
theorem dL_law_932 : decode cL_law 932 = .ok (.iaload, 1) := by decide +kernel
theorem dL_law_933 : decode cL_law 933 = .ok (.aload_n 0, 1) := by decide +kernel
theorem dL_law_934 : decode cL_law 934 = .ok (.iload_n 3, 1) := by decide +kernel
theorem dL_law_935 : decode cL_law 935 = .ok (.iconst 2, 1) := by decide +kernel
theorem dL_law_936 : decode cL_law 936 = .ok (.iadd, 1) := by decide +kernel
theorem dL_law_937 : decode cL_law 937 = .ok (.iaload, 1) := by decide +kernel
theorem dL_law_938 : decode cL_law 938 = .ok (.aload_n 0, 1) := by decide +kernel
theorem dL_law_939 : decode cL_law 939 = .ok (.iload_n 3, 1) := by decide +kernel
theorem dL_law_940 : decode cL_law 940 = .ok (.iconst 3, 1) := by decide +kernel
theorem dL_law_941 : decode cL_law 941 = .ok (.iadd, 1) := by decide +kernel
theorem dL_law_942 : decode cL_law 942 = .ok (.iaload, 1) := by decide +kernel
theorem dL_law_943 : decode cL_law 943 = .ok (.aload_n 0, 1) := by decide +kernel
theorem dL_law_944 : decode cL_law 944 = .ok (.iload_n 3, 1) := by decide +kernel
theorem dL_law_945 : decode cL_law 945 = .ok (.iconst 4, 1) := by decide +kernel
theorem dL_law_946 : decode cL_law 946 = .ok (.iadd, 1) := by decide +kernel
theorem dL_law_947 : decode cL_law 947 = .ok (.iaload, 1) := by decide +kernel
theorem dL_law_948 : decode cL_law 948 = .ok (.aload_n 0, 1) := by decide +kernel
theorem dL_law_949 : decode cL_law 949 = .ok (.iload_n 3, 1) := by decide +kernel
theorem dL_law_950 : decode cL_law 950 = .ok (.iconst 5, 1) := by decide +kernel
theorem dL_law_951 : decode cL_law 951 = .ok (.iadd, 1) := by decide +kernel
theorem dL_law_952 : decode cL_law 952 = .ok (.iaload, 1) := by decide +kernel
theorem dL_law_953 : decode cL_law 953 = .ok (.invokevirtual 105, 3) := by decide +kernel
theorem dL_law_956 : decode cL_law 956 = .ok (.if_icmp .eq 352, 3) := by decide +kernel
theorem dL_law_959 : decode cL_law 959 = .ok (.iconst 0, 1) := by decide +kernel
theorem dL_law_960 : decode cL_law 960 = .ok (.ireturn, 1) := by decide +kernel
theorem dL_law_961 : decode cL_law 961 = .ok (.aload_n 1, 1) := by decide +kernel
theorem dL_law_962 : decode cL_law 962 = .ok (.aload_n 0, 1) := by decide +kernel
theorem dL_law_963 : decode cL_law 963 = .ok (.iload_n 3, 1) := by decide +kernel
theorem dL_law_964 : decode cL_law 964 = .ok (.iconst 1, 1) := by decide +kernel
theorem dL_law_965 : decode cL_law 965 = .ok (.iadd, 1) := by decide +kernel
theorem dL_law_966 : decode cL_law 966 = .ok (.iaload, 1) := by decide +kernel
theorem dL_law_967 : decode cL_law 967 = .ok (.aload_n 0, 1) := by decide +kernel
theorem dL_law_968 : decode cL_law 968 = .ok (.iload_n 3, 1) := by decide +kernel
theorem dL_law_969 : decode cL_law 969 = .ok (.iconst 2, 1) := by decide +kernel
theorem dL_law_970 : decode cL_law 970 = .ok (.iadd, 1) := by decide +kernel
theorem dL_law_971 : decode cL_law 971 = .ok (.iaload, 1) := by decide +kernel
theorem dL_law_972 : decode cL_law 972 = .ok (.aload_n 0, 1) := by decide +kernel
theorem dL_law_973 : decode cL_law 973 = .ok (.iload_n 3, 1) := by decide +kernel
theorem dL_law_974 : decode cL_law 974 = .ok (.iconst 3, 1) := by decide +kernel
theorem dL_law_975 : decode cL_law 975 = .ok (.iadd, 1) := by decide +kernel
theorem dL_law_976 : decode cL_law 976 = .ok (.iaload, 1) := by decide +kernel
theorem dL_law_977 : decode cL_law 977 = .ok (.aload_n 0, 1) := by decide +kernel
theorem dL_law_978 : decode cL_law 978 = .ok (.iload_n 3, 1) := by decide +kernel
theorem dL_law_979 : decode cL_law 979 = .ok (.iconst 4, 1) := by decide +kernel
theorem dL_law_980 : decode cL_law 980 = .ok (.iadd, 1) := by decide +kernel
theorem dL_law_981 : decode cL_law 981 = .ok (.iaload, 1) := by decide +kernel
theorem dL_law_982 : decode cL_law 982 = .ok (.aload_n 0, 1) := by decide +kernel
theorem dL_law_983 : decode cL_law 983 = .ok (.iload_n 3, 1) := by decide +kernel
theorem dL_law_984 : decode cL_law 984 = .ok (.iconst 5, 1) := by decide +kernel
theorem dL_law_985 : decode cL_law 985 = .ok (.iadd, 1) := by decide +kernel
theorem dL_law_986 : decode cL_law 986 = .ok (.iaload, 1) := by decide +kernel
theorem dL_law_987 : decode cL_law 987 = .ok (.invokevirtual 106, 3) := by decide +kernel
theorem dL_law_990 : decode cL_law 990 = .ok (.aload_n 2, 1) := by decide +kernel
theorem dL_law_991 : decode cL_law 991 = .ok (.aload_n 0, 1) := by decide +kernel
theorem dL_law_992 : decode cL_law 992 = .ok (.iload_n 3, 1) := by decide +kernel
theorem dL_law_993 : decode cL_law 993 = .ok (.iconst 1, 1) := by decide +kernel
theorem dL_law_994 : decode cL_law 994 = .ok (.iadd, 1) := by decide +kernel
theorem dL_law_995 : decode cL_law 995 = .ok (.iaload, 1) := by decide +kernel
theorem dL_law_996 : decode cL_law 996 = .ok (.aload_n 0, 1) := by decide +kernel
theorem dL_law_997 : decode cL_law 997 = .ok (.iload_n 3, 1) := by decide +kernel
theorem dL_law_998 : decode cL_law 998 = .ok (.iconst 2, 1) := by decide +kernel
theorem dL_law_999 : decode cL_law 999 = .ok (.iadd, 1) := by decide +kernel
theorem dL_law_1000 : decode cL_law 1000 = .ok (.iaload, 1) := by decide +kernel
theorem dL_law_1001 : decode cL_law 1001 = .ok (.aload_n 0, 1) := by decide +kernel
theorem dL_law_1002 : decode cL_law 1002 = .ok (.iload_n 3, 1) := by decide +kernel
theorem dL_law_1003 : decode cL_law 1003 = .ok (.iconst 3, 1) := by decide +kernel
theorem dL_law_1004 : decode cL_law 1004 = .ok (.iadd, 1) := by decide +kernel
theorem dL_law_1005 : decode cL_law 1005 = .ok (.iaload, 1) := by decide +kernel
theorem dL_law_1006 : decode cL_law 1006 = .ok (.aload_n 0, 1) := by decide +kernel
theorem dL_law_1007 : decode cL_law 1007 = .ok (.iload_n 3, 1) := by decide +kernel
theorem dL_law_1008 : decode cL_law 1008 = .ok (.iconst 4, 1) := by decide +kernel
theorem dL_law_1009 : decode cL_law 1009 = .ok (.iadd, 1) := by decide +kernel
theorem dL_law_1010 : decode cL_law 1010 = .ok (.iaload, 1) := by decide +kernel
theorem dL_law_1011 : decode cL_law 1011 = .ok (.aload_n 0, 1) := by decide +kernel
theorem dL_law_1012 : decode cL_law 1012 = .ok (.iload_n 3, 1) := by decide +kernel
theorem dL_law_1013 : decode cL_law 1013 = .ok (.iconst 5, 1) := by decide +kernel
theorem dL_law_1014 : decode cL_law 1014 = .ok (.iadd, 1) := by decide +kernel
theorem dL_law_1015 : decode cL_law 1015 = .ok (.iaload, 1) := by decide +kernel
theorem dL_law_1016 : decode cL_law 1016 = .ok (.invokevirtual 109, 3) := by decide +kernel
theorem dL_law_1019 : decode cL_law 1019 = .ok (.if_icmp .eq 289, 3) := by decide +kernel
theorem dL_law_1022 : decode cL_law 1022 = .ok (.iconst 0, 1) := by decide +kernel
theorem dL_law_1023 : decode cL_law 1023 = .ok (.ireturn, 1) := by decide +kernel
theorem dL_law_1024 : decode cL_law 1024 = .ok (.aload_n 1, 1) := by decide +kernel
theorem dL_law_1025 : decode cL_law 1025 = .ok (.aload_n 0, 1) := by decide +kernel
theorem dL_law_1026 : decode cL_law 1026 = .ok (.iload_n 3, 1) := by decide +kernel
theorem dL_law_1027 : decode cL_law 1027 = .ok (.iconst 1, 1) := by decide +kernel
theorem dL_law_1028 : decode cL_law 1028 = .ok (.iadd, 1) := by decide +kernel
theorem dL_law_1029 : decode cL_law 1029 = .ok (.iaload, 1) := by decide +kernel
theorem dL_law_1030 : decode cL_law 1030 = .ok (.aload_n 0, 1) := by decide +kernel
theorem dL_law_1031 : decode cL_law 1031 = .ok (.iload_n 3, 1) := by decide +kernel
theorem dL_law_1032 : decode cL_law 1032 = .ok (.iconst 2, 1) := by decide +kernel
theorem dL_law_1033 : decode cL_law 1033 = .ok (.iadd, 1) := by decide +kernel
theorem dL_law_1034 : decode cL_law 1034 = .ok (.iaload, 1) := by decide +kernel
theorem dL_law_1035 : decode cL_law 1035 = .ok (.aload_n 0, 1) := by decide +kernel
theorem dL_law_1036 : decode cL_law 1036 = .ok (.iload_n 3, 1) := by decide +kernel
theorem dL_law_1037 : decode cL_law 1037 = .ok (.iconst 3, 1) := by decide +kernel
theorem dL_law_1038 : decode cL_law 1038 = .ok (.iadd, 1) := by decide +kernel
theorem dL_law_1039 : decode cL_law 1039 = .ok (.iaload, 1) := by decide +kernel
theorem dL_law_1040 : decode cL_law 1040 = .ok (.aload_n 0, 1) := by decide +kernel
theorem dL_law_1041 : decode cL_law 1041 = .ok (.iload_n 3, 1) := by decide +kernel
theorem dL_law_1042 : decode cL_law 1042 = .ok (.iconst 4, 1) := by decide +kernel
theorem dL_law_1043 : decode cL_law 1043 = .ok (.iadd, 1) := by decide +kernel
theorem dL_law_1044 : decode cL_law 1044 = .ok (.iaload, 1) := by decide +kernel
theorem dL_law_1045 : decode cL_law 1045 = .ok (.aload_n 0, 1) := by decide +kernel
theorem dL_law_1046 : decode cL_law 1046 = .ok (.iload_n 3, 1) := by decide +kernel
theorem dL_law_1047 : decode cL_law 1047 = .ok (.iconst 5, 1) := by decide +kernel
theorem dL_law_1048 : decode cL_law 1048 = .ok (.iadd, 1) := by decide +kernel
theorem dL_law_1049 : decode cL_law 1049 = .ok (.iaload, 1) := by decide +kernel
theorem dL_law_1050 : decode cL_law 1050 = .ok (.invokevirtual 110, 3) := by decide +kernel
theorem dL_law_1053 : decode cL_law 1053 = .ok (.aload_n 2, 1) := by decide +kernel
theorem dL_law_1054 : decode cL_law 1054 = .ok (.aload_n 0, 1) := by decide +kernel
theorem dL_law_1055 : decode cL_law 1055 = .ok (.iload_n 3, 1) := by decide +kernel
theorem dL_law_1056 : decode cL_law 1056 = .ok (.iconst 1, 1) := by decide +kernel
theorem dL_law_1057 : decode cL_law 1057 = .ok (.iadd, 1) := by decide +kernel
theorem dL_law_1058 : decode cL_law 1058 = .ok (.iaload, 1) := by decide +kernel
theorem dL_law_1059 : decode cL_law 1059 = .ok (.aload_n 0, 1) := by decide +kernel
theorem dL_law_1060 : decode cL_law 1060 = .ok (.iload_n 3, 1) := by decide +kernel
theorem dL_law_1061 : decode cL_law 1061 = .ok (.iconst 2, 1) := by decide +kernel
theorem dL_law_1062 : decode cL_law 1062 = .ok (.iadd, 1) := by decide +kernel
theorem dL_law_1063 : decode cL_law 1063 = .ok (.iaload, 1) := by decide +kernel
theorem dL_law_1064 : decode cL_law 1064 = .ok (.aload_n 0, 1) := by decide +kernel
theorem dL_law_1065 : decode cL_law 1065 = .ok (.iload_n 3, 1) := by decide +kernel
theorem dL_law_1066 : decode cL_law 1066 = .ok (.iconst 3, 1) := by decide +kernel
theorem dL_law_1067 : decode cL_law 1067 = .ok (.iadd, 1) := by decide +kernel
theorem dL_law_1068 : decode cL_law 1068 = .ok (.iaload, 1) := by decide +kernel
theorem dL_law_1069 : decode cL_law 1069 = .ok (.aload_n 0, 1) := by decide +kernel
theorem dL_law_1070 : decode cL_law 1070 = .ok (.iload_n 3, 1) := by decide +kernel
theorem dL_law_1071 : decode cL_law 1071 = .ok (.iconst 4, 1) := by decide +kernel
theorem dL_law_1072 : decode cL_law 1072 = .ok (.iadd, 1) := by decide +kernel
theorem dL_law_1073 : decode cL_law 1073 = .ok (.iaload, 1) := by decide +kernel
theorem dL_law_1074 : decode cL_law 1074 = .ok (.aload_n 0, 1) := by decide +kernel
theorem dL_law_1075 : decode cL_law 1075 = .ok (.iload_n 3, 1) := by decide +kernel
theorem dL_law_1076 : decode cL_law 1076 = .ok (.iconst 5, 1) := by decide +kernel
theorem dL_law_1077 : decode cL_law 1077 = .ok (.iadd, 1) := by decide +kernel
theorem dL_law_1078 : decode cL_law 1078 = .ok (.iaload, 1) := by decide +kernel
theorem dL_law_1079 : decode cL_law 1079 = .ok (.invokevirtual 113, 3) := by decide +kernel
theorem dL_law_1082 : decode cL_law 1082 = .ok (.if_icmp .eq 226, 3) := by decide +kernel
theorem dL_law_1085 : decode cL_law 1085 = .ok (.iconst 0, 1) := by decide +kernel
theorem dL_law_1086 : decode cL_law 1086 = .ok (.ireturn, 1) := by decide +kernel
theorem dL_law_1087 : decode cL_law 1087 = .ok (.aload_n 1, 1) := by decide +kernel
theorem dL_law_1088 : decode cL_law 1088 = .ok (.aload_n 0, 1) := by decide +kernel
theorem dL_law_1089 : decode cL_law 1089 = .ok (.iload_n 3, 1) := by decide +kernel
theorem dL_law_1090 : decode cL_law 1090 = .ok (.iconst 1, 1) := by decide +kernel
theorem dL_law_1091 : decode cL_law 1091 = .ok (.iadd, 1) := by decide +kernel
theorem dL_law_1092 : decode cL_law 1092 = .ok (.iaload, 1) := by decide +kernel
theorem dL_law_1093 : decode cL_law 1093 = .ok (.invokevirtual 114, 3) := by decide +kernel
theorem dL_law_1096 : decode cL_law 1096 = .ok (.aload_n 2, 1) := by decide +kernel
theorem dL_law_1097 : decode cL_law 1097 = .ok (.aload_n 0, 1) := by decide +kernel
theorem dL_law_1098 : decode cL_law 1098 = .ok (.iload_n 3, 1) := by decide +kernel
theorem dL_law_1099 : decode cL_law 1099 = .ok (.iconst 1, 1) := by decide +kernel
theorem dL_law_1100 : decode cL_law 1100 = .ok (.iadd, 1) := by decide +kernel
theorem dL_law_1101 : decode cL_law 1101 = .ok (.iaload, 1) := by decide +kernel
theorem dL_law_1102 : decode cL_law 1102 = .ok (.invokevirtual 117, 3) := by decide +kernel
theorem dL_law_1105 : decode cL_law 1105 = .ok (.if_icmp .eq 203, 3) := by decide +kernel
theorem dL_law_1108 : decode cL_law 1108 = .ok (.iconst 0, 1) := by decide +kernel
theorem dL_law_1109 : decode cL_law 1109 = .ok (.ireturn, 1) := by decide +kernel
theorem dL_law_1110 : decode cL_law 1110 = .ok (.aload_n 1, 1) := by decide +kernel
theorem dL_law_1111 : decode cL_law 1111 = .ok (.aload_n 0, 1) := by decide +kernel
theorem dL_law_1112 : decode cL_law 1112 = .ok (.iload_n 3, 1) := by decide +kernel
theorem dL_law_1113 : decode cL_law 1113 = .ok (.iconst 1, 1) := by decide +kernel
theorem dL_law_1114 : decode cL_law 1114 = .ok (.iadd, 1) := by decide +kernel
theorem dL_law_1115 : decode cL_law 1115 = .ok (.iaload, 1) := by decide +kernel
theorem dL_law_1116 : decode cL_law 1116 = .ok (.aload_n 0, 1) := by decide +kernel
theorem dL_law_1117 : decode cL_law 1117 = .ok (.iload_n 3, 1) := by decide +kernel
theorem dL_law_1118 : decode cL_law 1118 = .ok (.iconst 2, 1) := by decide +kernel
theorem dL_law_1119 : decode cL_law 1119 = .ok (.iadd, 1) := by decide +kernel
theorem dL_law_1120 : decode cL_law 1120 = .ok (.iaload, 1) := by decide +kernel
theorem dL_law_1121 : decode cL_law 1121 = .ok (.aload_n 0, 1) := by decide +kernel
theorem dL_law_1122 : decode cL_law 1122 = .ok (.iload_n 3, 1) := by decide +kernel
theorem dL_law_1123 : decode cL_law 1123 = .ok (.iconst 3, 1) := by decide +kernel
theorem dL_law_1124 : decode cL_law 1124 = .ok (.iadd, 1) := by decide +kernel
theorem dL_law_1125 : decode cL_law 1125 = .ok (.iaload, 1) := by decide +kernel
theorem dL_law_1126 : decode cL_law 1126 = .ok (.aload_n 0, 1) := by decide +kernel
theorem dL_law_1127 : decode cL_law 1127 = .ok (.iload_n 3, 1) := by decide +kernel
theorem dL_law_1128 : decode cL_law 1128 = .ok (.iconst 4, 1) := by decide +kernel
theorem dL_law_1129 : decode cL_law 1129 = .ok (.iadd, 1) := by decide +kernel
theorem dL_law_1130 : decode cL_law 1130 = .ok (.iaload, 1) := by decide +kernel
theorem dL_law_1131 : decode cL_law 1131 = .ok (.aload_n 0, 1) := by decide +kernel
theorem dL_law_1132 : decode cL_law 1132 = .ok (.iload_n 3, 1) := by decide +kernel
theorem dL_law_1133 : decode cL_law 1133 = .ok (.iconst 5, 1) := by decide +kernel
theorem dL_law_1134 : decode cL_law 1134 = .ok (.iadd, 1) := by decide +kernel
theorem dL_law_1135 : decode cL_law 1135 = .ok (.iaload, 1) := by decide +kernel
theorem dL_law_1136 : decode cL_law 1136 = .ok (.invokevirtual 118, 3) := by decide +kernel
theorem dL_law_1139 : decode cL_law 1139 = .ok (.aload_n 2, 1) := by decide +kernel
theorem dL_law_1140 : decode cL_law 1140 = .ok (.aload_n 0, 1) := by decide +kernel
theorem dL_law_1141 : decode cL_law 1141 = .ok (.iload_n 3, 1) := by decide +kernel
theorem dL_law_1142 : decode cL_law 1142 = .ok (.iconst 1, 1) := by decide +kernel
theorem dL_law_1143 : decode cL_law 1143 = .ok (.iadd, 1) := by decide +kernel
theorem dL_law_1144 : decode cL_law 1144 = .ok (.iaload, 1) := by decide +kernel
theorem dL_law_1145 : decode cL_law 1145 = .ok (.aload_n 0, 1) := by decide +kernel
theorem dL_law_1146 : decode cL_law 1146 = .ok (.iload_n 3, 1) := by decide +kernel
theorem dL_law_1147 : decode cL_law 1147 = .ok (.iconst 2, 1) := by decide +kernel
theorem dL_law_1148 : decode cL_law 1148 = .ok (.iadd, 1) := by decide +kernel
theorem dL_law_1149 : decode cL_law 1149 = .ok (.iaload, 1) := by decide +kernel
theorem dL_law_1150 : decode cL_law 1150 = .ok (.aload_n 0, 1) := by decide +kernel
theorem dL_law_1151 : decode cL_law 1151 = .ok (.iload_n 3, 1) := by decide +kernel
theorem dL_law_1152 : decode cL_law 1152 = .ok (.iconst 3, 1) := by decide +kernel
theorem dL_law_1153 : decode cL_law 1153 = .ok (.iadd, 1) := by decide +kernel
theorem dL_law_1154 : decode cL_law 1154 = .ok (.iaload, 1) := by decide +kernel
theorem dL_law_1155 : decode cL_law 1155 = .ok (.aload_n 0, 1) := by decide +kernel
theorem dL_law_1156 : decode cL_law 1156 = .ok (.iload_n 3, 1) := by decide +kernel
theorem dL_law_1157 : decode cL_law 1157 = .ok (.iconst 4, 1) := by decide +kernel
theorem dL_law_1158 : decode cL_law 1158 = .ok (.iadd, 1) := by decide +kernel
theorem dL_law_1159 : decode cL_law 1159 = .ok (.iaload, 1) := by decide +kernel
theorem dL_law_1160 : decode cL_law 1160 = .ok (.aload_n 0, 1) := by decide +kernel
theorem dL_law_1161 : decode cL_law 1161 = .ok (.iload_n 3, 1) := by decide +kernel
theorem dL_law_1162 : decode cL_law 1162 = .ok (.iconst 5, 1) := by decide +kernel
theorem dL_law_1163 : decode cL_law 1163 = .ok (.iadd, 1) := by decide +kernel
theorem dL_law_1164 : decode cL_law 1164 = .ok (.iaload, 1) := by decide +kernel
theorem dL_law_1165 : decode cL_law 1165 = .ok (.invokevirtual 121, 3) := by decide +kernel
theorem dL_law_1168 : decode cL_law 1168 = .ok (.if_icmp .eq 140, 3) := by decide +kernel
theorem dL_law_1171 : decode cL_law 1171 = .ok (.iconst 0, 1) := by decide +kernel
theorem dL_law_1172 : decode cL_law 1172 = .ok (.ireturn, 1) := by decide +kernel
theorem dL_law_1173 : decode cL_law 1173 = .ok (.aload_n 1, 1) := by decide +kernel
theorem dL_law_1174 : decode cL_law 1174 = .ok (.aload_n 0, 1) := by decide +kernel
theorem dL_law_1175 : decode cL_law 1175 = .ok (.iload_n 3, 1) := by decide +kernel
theorem dL_law_1176 : decode cL_law 1176 = .ok (.iconst 1, 1) := by decide +kernel
theorem dL_law_1177 : decode cL_law 1177 = .ok (.iadd, 1) := by decide +kernel
theorem dL_law_1178 : decode cL_law 1178 = .ok (.iaload, 1) := by decide +kernel
theorem dL_law_1179 : decode cL_law 1179 = .ok (.aload_n 0, 1) := by decide +kernel
theorem dL_law_1180 : decode cL_law 1180 = .ok (.iload_n 3, 1) := by decide +kernel
theorem dL_law_1181 : decode cL_law 1181 = .ok (.iconst 2, 1) := by decide +kernel
theorem dL_law_1182 : decode cL_law 1182 = .ok (.iadd, 1) := by decide +kernel
theorem dL_law_1183 : decode cL_law 1183 = .ok (.iaload, 1) := by decide +kernel
theorem dL_law_1184 : decode cL_law 1184 = .ok (.invokevirtual 122, 3) := by decide +kernel
theorem dL_law_1187 : decode cL_law 1187 = .ok (.aload_n 2, 1) := by decide +kernel
theorem dL_law_1188 : decode cL_law 1188 = .ok (.aload_n 0, 1) := by decide +kernel
theorem dL_law_1189 : decode cL_law 1189 = .ok (.iload_n 3, 1) := by decide +kernel
theorem dL_law_1190 : decode cL_law 1190 = .ok (.iconst 1, 1) := by decide +kernel
theorem dL_law_1191 : decode cL_law 1191 = .ok (.iadd, 1) := by decide +kernel
theorem dL_law_1192 : decode cL_law 1192 = .ok (.iaload, 1) := by decide +kernel
theorem dL_law_1193 : decode cL_law 1193 = .ok (.aload_n 0, 1) := by decide +kernel
theorem dL_law_1194 : decode cL_law 1194 = .ok (.iload_n 3, 1) := by decide +kernel
theorem dL_law_1195 : decode cL_law 1195 = .ok (.iconst 2, 1) := by decide +kernel
theorem dL_law_1196 : decode cL_law 1196 = .ok (.iadd, 1) := by decide +kernel
theorem dL_law_1197 : decode cL_law 1197 = .ok (.iaload, 1) := by decide +kernel
theorem dL_law_1198 : decode cL_law 1198 = .ok (.invokevirtual 125, 3) := by decide +kernel
theorem dL_law_1201 : decode cL_law 1201 = .ok (.if_icmp .eq 107, 3) := by decide +kernel
theorem dL_law_1204 : decode cL_law 1204 = .ok (.iconst 0, 1) := by decide +kernel
theorem dL_law_1205 : decode cL_law 1205 = .ok (.ireturn, 1) := by decide +kernel
theorem dL_law_1206 : decode cL_law 1206 = .ok (.aload_n 1, 1) := by decide +kernel
theorem dL_law_1207 : decode cL_law 1207 = .ok (.aload_n 0, 1) := by decide +kernel
theorem dL_law_1208 : decode cL_law 1208 = .ok (.iload_n 3, 1) := by decide +kernel
theorem dL_law_1209 : decode cL_law 1209 = .ok (.iconst 1, 1) := by decide +kernel
theorem dL_law_1210 : decode cL_law 1210 = .ok (.iadd, 1) := by decide +kernel
theorem dL_law_1211 : decode cL_law 1211 = .ok (.iaload, 1) := by decide +kernel
theorem dL_law_1212 : decode cL_law 1212 = .ok (.aload_n 0, 1) := by decide +kernel
theorem dL_law_1213 : decode cL_law 1213 = .ok (.iload_n 3, 1) := by decide +kernel
theorem dL_law_1214 : decode cL_law 1214 = .ok (.iconst 2, 1) := by decide +kernel
theorem dL_law_1215 : decode cL_law 1215 = .ok (.iadd, 1) := by decide +kernel
theorem dL_law_1216 : decode cL_law 1216 = .ok (.iaload, 1) := by decide +kernel
theorem dL_law_1217 : decode cL_law 1217 = .ok (.invokevirtual 126, 3) := by decide +kernel
theorem dL_law_1220 : decode cL_law 1220 = .ok (.aload_n 2, 1) := by decide +kernel
theorem dL_law_1221 : decode cL_law 1221 = .ok (.aload_n 0, 1) := by decide +kernel
theorem dL_law_1222 : decode cL_law 1222 = .ok (.iload_n 3, 1) := by decide +kernel
theorem dL_law_1223 : decode cL_law 1223 = .ok (.iconst 1, 1) := by decide +kernel
theorem dL_law_1224 : decode cL_law 1224 = .ok (.iadd, 1) := by decide +kernel
theorem dL_law_1225 : decode cL_law 1225 = .ok (.iaload, 1) := by decide +kernel
theorem dL_law_1226 : decode cL_law 1226 = .ok (.aload_n 0, 1) := by decide +kernel
theorem dL_law_1227 : decode cL_law 1227 = .ok (.iload_n 3, 1) := by decide +kernel
theorem dL_law_1228 : decode cL_law 1228 = .ok (.iconst 2, 1) := by decide +kernel
theorem dL_law_1229 : decode cL_law 1229 = .ok (.iadd, 1) := by decide +kernel
theorem dL_law_1230 : decode cL_law 1230 = .ok (.iaload, 1) := by decide +kernel
theorem dL_law_1231 : decode cL_law 1231 = .ok (.invokevirtual 129, 3) := by decide +kernel
theorem dL_law_1234 : decode cL_law 1234 = .ok (.if_icmp .eq 74, 3) := by decide +kernel
theorem dL_law_1237 : decode cL_law 1237 = .ok (.iconst 0, 1) := by decide +kernel
theorem dL_law_1238 : decode cL_law 1238 = .ok (.ireturn, 1) := by decide +kernel
theorem dL_law_1239 : decode cL_law 1239 = .ok (.aload_n 1, 1) := by decide +kernel
theorem dL_law_1240 : decode cL_law 1240 = .ok (.aload_n 0, 1) := by decide +kernel
theorem dL_law_1241 : decode cL_law 1241 = .ok (.iload_n 3, 1) := by decide +kernel
theorem dL_law_1242 : decode cL_law 1242 = .ok (.iconst 1, 1) := by decide +kernel
theorem dL_law_1243 : decode cL_law 1243 = .ok (.iadd, 1) := by decide +kernel
theorem dL_law_1244 : decode cL_law 1244 = .ok (.iaload, 1) := by decide +kernel
theorem dL_law_1245 : decode cL_law 1245 = .ok (.invokevirtual 130, 3) := by decide +kernel
theorem dL_law_1248 : decode cL_law 1248 = .ok (.aload_n 2, 1) := by decide +kernel
theorem dL_law_1249 : decode cL_law 1249 = .ok (.aload_n 0, 1) := by decide +kernel
theorem dL_law_1250 : decode cL_law 1250 = .ok (.iload_n 3, 1) := by decide +kernel
theorem dL_law_1251 : decode cL_law 1251 = .ok (.iconst 1, 1) := by decide +kernel
theorem dL_law_1252 : decode cL_law 1252 = .ok (.iadd, 1) := by decide +kernel
theorem dL_law_1253 : decode cL_law 1253 = .ok (.iaload, 1) := by decide +kernel
theorem dL_law_1254 : decode cL_law 1254 = .ok (.invokevirtual 133, 3) := by decide +kernel
theorem dL_law_1257 : decode cL_law 1257 = .ok (.if_icmp .eq 51, 3) := by decide +kernel
theorem dL_law_1260 : decode cL_law 1260 = .ok (.iconst 0, 1) := by decide +kernel
theorem dL_law_1261 : decode cL_law 1261 = .ok (.ireturn, 1) := by decide +kernel
theorem dL_law_1262 : decode cL_law 1262 = .ok (.aload_n 1, 1) := by decide +kernel
theorem dL_law_1263 : decode cL_law 1263 = .ok (.aload_n 0, 1) := by decide +kernel
theorem dL_law_1264 : decode cL_law 1264 = .ok (.iload_n 3, 1) := by decide +kernel
theorem dL_law_1265 : decode cL_law 1265 = .ok (.iconst 1, 1) := by decide +kernel
theorem dL_law_1266 : decode cL_law 1266 = .ok (.iadd, 1) := by decide +kernel
theorem dL_law_1267 : decode cL_law 1267 = .ok (.iaload, 1) := by decide +kernel
theorem dL_law_1268 : decode cL_law 1268 = .ok (.invokevirtual 134, 3) := by decide +kernel
theorem dL_law_1271 : decode cL_law 1271 = .ok (.aload_n 2, 1) := by decide +kernel
theorem dL_law_1272 : decode cL_law 1272 = .ok (.aload_n 0, 1) := by decide +kernel
theorem dL_law_1273 : decode cL_law 1273 = .ok (.iload_n 3, 1) := by decide +kernel
theorem dL_law_1274 : decode cL_law 1274 = .ok (.iconst 1, 1) := by decide +kernel
theorem dL_law_1275 : decode cL_law 1275 = .ok (.iadd, 1) := by decide +kernel
theorem dL_law_1276 : decode cL_law 1276 = .ok (.iaload, 1) := by decide +kernel
theorem dL_law_1277 : decode cL_law 1277 = .ok (.invokevirtual 137, 3) := by decide +kernel
theorem dL_law_1280 : decode cL_law 1280 = .ok (.if_icmp .eq 28, 3) := by decide +kernel
theorem dL_law_1283 : decode cL_law 1283 = .ok (.iconst 0, 1) := by decide +kernel
theorem dL_law_1284 : decode cL_law 1284 = .ok (.ireturn, 1) := by decide +kernel
theorem dL_law_1285 : decode cL_law 1285 = .ok (.aload_n 1, 1) := by decide +kernel
theorem dL_law_1286 : decode cL_law 1286 = .ok (.aload_n 0, 1) := by decide +kernel
theorem dL_law_1287 : decode cL_law 1287 = .ok (.iload_n 3, 1) := by decide +kernel
theorem dL_law_1288 : decode cL_law 1288 = .ok (.iconst 1, 1) := by decide +kernel
theorem dL_law_1289 : decode cL_law 1289 = .ok (.iadd, 1) := by decide +kernel
theorem dL_law_1290 : decode cL_law 1290 = .ok (.iaload, 1) := by decide +kernel
theorem dL_law_1291 : decode cL_law 1291 = .ok (.invokevirtual 138, 3) := by decide +kernel
theorem dL_law_1294 : decode cL_law 1294 = .ok (.aload_n 2, 1) := by decide +kernel
theorem dL_law_1295 : decode cL_law 1295 = .ok (.aload_n 0, 1) := by decide +kernel
theorem dL_law_1296 : decode cL_law 1296 = .ok (.iload_n 3, 1) := by decide +kernel
theorem dL_law_1297 : decode cL_law 1297 = .ok (.iconst 1, 1) := by decide +kernel
theorem dL_law_1298 : decode cL_law 1298 = .ok (.iadd, 1) := by decide +kernel
theorem dL_law_1299 : decode cL_law 1299 = .ok (.iaload, 1) := by decide +kernel
theorem dL_law_1300 : decode cL_law 1300 = .ok (.invokevirtual 141, 3) := by decide +kernel
theorem dL_law_1303 : decode cL_law 1303 = .ok (.if_icmp .eq 5, 3) := by decide +kernel
theorem dL_law_1306 : decode cL_law 1306 = .ok (.iconst 0, 1) := by decide +kernel
theorem dL_law_1307 : decode cL_law 1307 = .ok (.ireturn, 1) := by decide +kernel
theorem dL_law_1308 : decode cL_law 1308 = .ok (.iinc 3 6, 3) := by decide +kernel
theorem dL_law_1311 : decode cL_law 1311 = .ok (.goto (-1293), 3) := by decide +kernel
theorem dL_law_1314 : decode cL_law 1314 = .ok (.iconst 1, 1) := by decide +kernel
theorem dL_law_1315 : decode cL_law 1315 = .ok (.ireturn, 1) := by decide +kernel
