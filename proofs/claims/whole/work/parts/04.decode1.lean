theorem dX0_init_0 : decode cX0_init 0 = .ok (.aload_n 0, 1) := by decide +kernel
theorem dX0_init_1 : decode cX0_init 1 = .ok (.invokespecial 1, 3) := by decide +kernel
theorem dX0_init_4 : decode cX0_init 4 = .ok (.aload_n 0, 1) := by decide +kernel
theorem dX0_init_5 : decode cX0_init 5 = .ok (.iconst 0, 1) := by decide +kernel
theorem dX0_init_6 : decode cX0_init 6 = .ok (.putfield 9, 3) := by decide +kernel
theorem dX0_init_9 : decode cX0_init 9 = .ok (.aload_n 0, 1) := by decide +kernel
theorem dX0_init_10 : decode cX0_init 10 = .ok (.iconst 0, 1) := by decide +kernel
theorem dX0_init_11 : decode cX0_init 11 = .ok (.putfield 13, 3) := by decide +kernel
theorem dX0_init_14 : decode cX0_init 14 = .ok (.aload_n 0, 1) := by decide +kernel
theorem dX0_init_15 : decode cX0_init 15 = .ok (.iconst 0, 1) := by decide +kernel
theorem dX0_init_16 : decode cX0_init 16 = .ok (.putfield 16, 3) := by decide +kernel
theorem dX0_init_19 : decode cX0_init 19 = .ok (.aload_n 0, 1) := by decide +kernel
theorem dX0_init_20 : decode cX0_init 20 = .ok (.iconst 0, 1) := by decide +kernel
theorem dX0_init_21 : decode cX0_init 21 = .ok (.putfield 19, 3) := by decide +kernel
theorem dX0_init_24 : decode cX0_init 24 = .ok (.aload_n 0, 1) := by decide +kernel
theorem dX0_init_25 : decode cX0_init 25 = .ok (.iconst 0, 1) := by decide +kernel
theorem dX0_init_26 : decode cX0_init 26 = .ok (.putfield 22, 3) := by decide +kernel
theorem dX0_init_29 : decode cX0_init 29 = .ok (.return_, 1) := by decide +kernel
theorem dX0_revert_0 : decode cX0_revert 0 = .ok (.aload_n 0, 1) := by decide +kernel
theorem dX0_revert_1 : decode cX0_revert 1 = .ok (.getfield 9, 3) := by decide +kernel
theorem dX0_revert_4 : decode cX0_revert 4 = .ok (.tableswitch 114 0 3 #[32, 58, 81, 92], 32) := by decide +kernel
theorem dX0_revert_36 : decode cX0_revert 36 = .ok (.aload_n 0, 1) := by decide +kernel
theorem dX0_revert_37 : decode cX0_revert 37 = .ok (.getfield 13, 3) := by decide +kernel
theorem dX0_revert_40 : decode cX0_revert 40 = .ok (.invokestatic 25, 3) := by decide +kernel
theorem dX0_revert_43 : decode cX0_revert 43 = .ok (.ifCond .eq 99, 3) := by decide +kernel
theorem dX0_revert_46 : decode cX0_revert 46 = .ok (.aload_n 1, 1) := by decide +kernel
theorem dX0_revert_47 : decode cX0_revert 47 = .ok (.getfield 31, 3) := by decide +kernel
theorem dX0_revert_50 : decode cX0_revert 50 = .ok (.aload_n 0, 1) := by decide +kernel
theorem dX0_revert_51 : decode cX0_revert 51 = .ok (.getfield 13, 3) := by decide +kernel
theorem dX0_revert_54 : decode cX0_revert 54 = .ok (.aload_n 0, 1) := by decide +kernel
theorem dX0_revert_55 : decode cX0_revert 55 = .ok (.getfield 22, 3) := by decide +kernel
theorem dX0_revert_58 : decode cX0_revert 58 = .ok (.iastore, 1) := by decide +kernel
theorem dX0_revert_59 : decode cX0_revert 59 = .ok (.goto 83, 3) := by decide +kernel
theorem dX0_revert_62 : decode cX0_revert 62 = .ok (.aload_n 1, 1) := by decide +kernel
theorem dX0_revert_63 : decode cX0_revert 63 = .ok (.aload_n 0, 1) := by decide +kernel
theorem dX0_revert_64 : decode cX0_revert 64 = .ok (.getfield 13, 3) := by decide +kernel
theorem dX0_revert_67 : decode cX0_revert 67 = .ok (.aload_n 0, 1) := by decide +kernel
theorem dX0_revert_68 : decode cX0_revert 68 = .ok (.getfield 16, 3) := by decide +kernel
theorem dX0_revert_71 : decode cX0_revert 71 = .ok (.aload_n 0, 1) := by decide +kernel
theorem dX0_revert_72 : decode cX0_revert 72 = .ok (.getfield 19, 3) := by decide +kernel
theorem dX0_revert_75 : decode cX0_revert 75 = .ok (.aload_n 0, 1) := by decide +kernel
theorem dX0_revert_76 : decode cX0_revert 76 = .ok (.getfield 22, 3) := by decide +kernel
theorem dX0_revert_79 : decode cX0_revert 79 = .ok (.invokevirtual 37, 3) := by decide +kernel
theorem dX0_revert_82 : decode cX0_revert 82 = .ok (.goto 60, 3) := by decide +kernel
theorem dX0_revert_85 : decode cX0_revert 85 = .ok (.aload_n 1, 1) := by decide +kernel
theorem dX0_revert_86 : decode cX0_revert 86 = .ok (.aload_n 0, 1) := by decide +kernel
theorem dX0_revert_87 : decode cX0_revert 87 = .ok (.getfield 13, 3) := by decide +kernel
theorem dX0_revert_90 : decode cX0_revert 90 = .ok (.invokevirtual 41, 3) := by decide +kernel
theorem dX0_revert_93 : decode cX0_revert 93 = .ok (.goto 49, 3) := by decide +kernel
theorem dX0_revert_96 : decode cX0_revert 96 = .ok (.aload_n 1, 1) := by decide +kernel
theorem dX0_revert_97 : decode cX0_revert 97 = .ok (.getfield 45, 3) := by decide +kernel
theorem dX0_revert_100 : decode cX0_revert 100 = .ok (.aload_n 0, 1) := by decide +kernel
theorem dX0_revert_101 : decode cX0_revert 101 = .ok (.getfield 13, 3) := by decide +kernel
theorem dX0_revert_104 : decode cX0_revert 104 = .ok (.aload_n 0, 1) := by decide +kernel
theorem dX0_revert_105 : decode cX0_revert 105 = .ok (.getfield 16, 3) := by decide +kernel
theorem dX0_revert_108 : decode cX0_revert 108 = .ok (.aload_n 0, 1) := by decide +kernel
theorem dX0_revert_109 : decode cX0_revert 109 = .ok (.getfield 19, 3) := by decide +kernel
theorem dX0_revert_112 : decode cX0_revert 112 = .ok (.invokevirtual 49, 3) := by decide +kernel
theorem dX0_revert_115 : decode cX0_revert 115 = .ok (.goto 27, 3) := by decide +kernel
theorem dX0_revert_118 : decode cX0_revert 118 = .ok (.aload_n 1, 1) := by decide +kernel
theorem dX0_revert_119 : decode cX0_revert 119 = .ok (.aload_n 0, 1) := by decide +kernel
theorem dX0_revert_120 : decode cX0_revert 120 = .ok (.getfield 13, 3) := by decide +kernel
theorem dX0_revert_123 : decode cX0_revert 123 = .ok (.invokevirtual 55, 3) := by decide +kernel
theorem dX0_revert_126 : decode cX0_revert 126 = .ok (.ifCond .eq 16, 3) := by decide +kernel
theorem dX0_revert_129 : decode cX0_revert 129 = .ok (.aload_n 0, 1) := by decide +kernel
theorem dX0_revert_130 : decode cX0_revert 130 = .ok (.aload_n 1, 1) := by decide +kernel
theorem dX0_revert_131 : decode cX0_revert 131 = .ok (.getfield 58, 3) := by decide +kernel
theorem dX0_revert_134 : decode cX0_revert 134 = .ok (.aload_n 0, 1) := by decide +kernel
theorem dX0_revert_135 : decode cX0_revert 135 = .ok (.getfield 13, 3) := by decide +kernel
theorem dX0_revert_138 : decode cX0_revert 138 = .ok (.aaload, 1) := by decide +kernel
theorem dX0_revert_139 : decode cX0_revert 139 = .ok (.invokevirtual 62, 3) := by decide +kernel
theorem dX0_revert_142 : decode cX0_revert 142 = .ok (.return_, 1) := by decide +kernel
theorem dX0_revertReading_0 : decode cX0_revertReading 0 = .ok (.aload_n 0, 1) := by decide +kernel
theorem dX0_revertReading_1 : decode cX0_revertReading 1 = .ok (.getfield 9, 3) := by decide +kernel
theorem dX0_revertReading_4 : decode cX0_revertReading 4 = .ok (.iconst 4, 1) := by decide +kernel
theorem dX0_revertReading_5 : decode cX0_revertReading 5 = .ok (.if_icmp .ne 14, 3) := by decide +kernel
theorem dX0_revertReading_8 : decode cX0_revertReading 8 = .ok (.aload_n 1, 1) := by decide +kernel
theorem dX0_revertReading_9 : decode cX0_revertReading 9 = .ok (.aload_n 0, 1) := by decide +kernel
theorem dX0_revertReading_10 : decode cX0_revertReading 10 = .ok (.getfield 16, 3) := by decide +kernel
theorem dX0_revertReading_13 : decode cX0_revertReading 13 = .ok (.invokevirtual 66, 3) := by decide +kernel
theorem dX0_revertReading_16 : decode cX0_revertReading 16 = .ok (.goto 15, 3) := by decide +kernel
theorem dX0_revertReading_19 : decode cX0_revertReading 19 = .ok (.aload_n 1, 1) := by decide +kernel
theorem dX0_revertReading_20 : decode cX0_revertReading 20 = .ok (.aload_n 0, 1) := by decide +kernel
theorem dX0_revertReading_21 : decode cX0_revertReading 21 = .ok (.getfield 16, 3) := by decide +kernel
theorem dX0_revertReading_24 : decode cX0_revertReading 24 = .ok (.aload_n 0, 1) := by decide +kernel
theorem dX0_revertReading_25 : decode cX0_revertReading 25 = .ok (.getfield 22, 3) := by decide +kernel
theorem dX0_revertReading_28 : decode cX0_revertReading 28 = .ok (.invokevirtual 71, 3) := by decide +kernel
theorem dX0_revertReading_31 : decode cX0_revertReading 31 = .ok (.return_, 1) := by decide +kernel
theorem dX1_init_0 : decode cX1_init 0 = .ok (.aload_n 0, 1) := by decide +kernel
theorem dX1_init_1 : decode cX1_init 1 = .ok (.invokespecial 3, 3) := by decide +kernel
theorem dX1_init_4 : decode cX1_init 4 = .ok (.aload_n 0, 1) := by decide +kernel
theorem dX1_init_5 : decode cX1_init 5 = .ok (.iconst 0, 1) := by decide +kernel
theorem dX1_init_6 : decode cX1_init 6 = .ok (.putfield 9, 3) := by decide +kernel
theorem dX1_init_9 : decode cX1_init 9 = .ok (.aload_n 0, 1) := by decide +kernel
theorem dX1_init_10 : decode cX1_init 10 = .ok (.bipush 120, 2) := by decide +kernel
theorem dX1_init_12 : decode cX1_init 12 = .ok (.newarray .int, 2) := by decide +kernel
theorem dX1_init_14 : decode cX1_init 14 = .ok (.putfield 15, 3) := by decide +kernel
theorem dX1_init_17 : decode cX1_init 17 = .ok (.return_, 1) := by decide +kernel
theorem dX2_init_0 : decode cX2_init 0 = .ok (.aload_n 0, 1) := by decide +kernel
theorem dX2_init_1 : decode cX2_init 1 = .ok (.invokespecial 3, 3) := by decide +kernel
theorem dX2_init_4 : decode cX2_init 4 = .ok (.aload_n 0, 1) := by decide +kernel
theorem dX2_init_5 : decode cX2_init 5 = .ok (.iconst 0, 1) := by decide +kernel
theorem dX2_init_6 : decode cX2_init 6 = .ok (.putfield 9, 3) := by decide +kernel
theorem dX2_init_9 : decode cX2_init 9 = .ok (.aload_n 0, 1) := by decide +kernel
theorem dX2_init_10 : decode cX2_init 10 = .ok (.iconst 0, 1) := by decide +kernel
theorem dX2_init_11 : decode cX2_init 11 = .ok (.putfield 15, 3) := by decide +kernel
theorem dX2_init_14 : decode cX2_init 14 = .ok (.aload_n 0, 1) := by decide +kernel
theorem dX2_init_15 : decode cX2_init 15 = .ok (.iconst 0, 1) := by decide +kernel
theorem dX2_init_16 : decode cX2_init 16 = .ok (.putfield 18, 3) := by decide +kernel
theorem dX2_init_19 : decode cX2_init 19 = .ok (.aload_n 0, 1) := by decide +kernel
theorem dX2_init_20 : decode cX2_init 20 = .ok (.iconst 0, 1) := by decide +kernel
theorem dX2_init_21 : decode cX2_init 21 = .ok (.putfield 21, 3) := by decide +kernel
theorem dX2_init_24 : decode cX2_init 24 = .ok (.aload_n 0, 1) := by decide +kernel
theorem dX2_init_25 : decode cX2_init 25 = .ok (.sipush 1400, 3) := by decide +kernel
theorem dX2_init_28 : decode cX2_init 28 = .ok (.newarray .byte, 2) := by decide +kernel
theorem dX2_init_30 : decode cX2_init 30 = .ok (.putfield 24, 3) := by decide +kernel
theorem dX2_init_33 : decode cX2_init 33 = .ok (.aload_n 0, 1) := by decide +kernel
theorem dX2_init_34 : decode cX2_init 34 = .ok (.iconst 0, 1) := by decide +kernel
theorem dX2_init_35 : decode cX2_init 35 = .ok (.putfield 28, 3) := by decide +kernel
theorem dX2_init_38 : decode cX2_init 38 = .ok (.aload_n 0, 1) := by decide +kernel
theorem dX2_init_39 : decode cX2_init 39 = .ok (.iconst 0, 1) := by decide +kernel
theorem dX2_init_40 : decode cX2_init 40 = .ok (.putfield 31, 3) := by decide +kernel
theorem dX2_init_43 : decode cX2_init 43 = .ok (.return_, 1) := by decide +kernel
theorem dX2_append_0 : decode cX2_append 0 = .ok (.bipush 24, 2) := by decide +kernel
theorem dX2_append_2 : decode cX2_append 2 = .ok (.istore_n 2, 1) := by decide +kernel
theorem dX2_append_3 : decode cX2_append 3 = .ok (.iload_n 2, 1) := by decide +kernel
theorem dX2_append_4 : decode cX2_append 4 = .ok (.ifCond .lt 42, 3) := by decide +kernel
theorem dX2_append_7 : decode cX2_append 7 = .ok (.aload_n 0, 1) := by decide +kernel
theorem dX2_append_8 : decode cX2_append 8 = .ok (.getfield 9, 3) := by decide +kernel
theorem dX2_append_11 : decode cX2_append 11 = .ok (.sipush 1400, 3) := by decide +kernel
theorem dX2_append_14 : decode cX2_append 14 = .ok (.if_icmp .ge 32, 3) := by decide +kernel
theorem dX2_append_17 : decode cX2_append 17 = .ok (.aload_n 0, 1) := by decide +kernel
theorem dX2_append_18 : decode cX2_append 18 = .ok (.getfield 24, 3) := by decide +kernel
theorem dX2_append_21 : decode cX2_append 21 = .ok (.aload_n 0, 1) := by decide +kernel
theorem dX2_append_22 : decode cX2_append 22 = .ok (.getfield 9, 3) := by decide +kernel
theorem dX2_append_25 : decode cX2_append 25 = .ok (.iload_n 1, 1) := by decide +kernel
theorem dX2_append_26 : decode cX2_append 26 = .ok (.iload_n 2, 1) := by decide +kernel
theorem dX2_append_27 : decode cX2_append 27 = .ok (.ishr, 1) := by decide +kernel
theorem dX2_append_28 : decode cX2_append 28 = .ok (.i2b, 1) := by decide +kernel
theorem dX2_append_29 : decode cX2_append 29 = .ok (.bastore, 1) := by decide +kernel
theorem dX2_append_30 : decode cX2_append 30 = .ok (.aload_n 0, 1) := by decide +kernel
theorem dX2_append_31 : decode cX2_append 31 = .ok (.dup, 1) := by decide +kernel
theorem dX2_append_32 : decode cX2_append 32 = .ok (.getfield 9, 3) := by decide +kernel
theorem dX2_append_35 : decode cX2_append 35 = .ok (.iconst 1, 1) := by decide +kernel
theorem dX2_append_36 : decode cX2_append 36 = .ok (.iadd, 1) := by decide +kernel
theorem dX2_append_37 : decode cX2_append 37 = .ok (.putfield 9, 3) := by decide +kernel
theorem dX2_append_40 : decode cX2_append 40 = .ok (.iinc 2 (-8), 3) := by decide +kernel
theorem dX2_append_43 : decode cX2_append 43 = .ok (.goto (-40), 3) := by decide +kernel
theorem dX2_append_46 : decode cX2_append 46 = .ok (.return_, 1) := by decide +kernel
theorem dX2_begin_0 : decode cX2_begin 0 = .ok (.aload_n 0, 1) := by decide +kernel
theorem dX2_begin_1 : decode cX2_begin 1 = .ok (.iload_n 1, 1) := by decide +kernel
theorem dX2_begin_2 : decode cX2_begin 2 = .ok (.putfield 28, 3) := by decide +kernel
theorem dX2_begin_5 : decode cX2_begin 5 = .ok (.aload_n 0, 1) := by decide +kernel
theorem dX2_begin_6 : decode cX2_begin 6 = .ok (.iconst 0, 1) := by decide +kernel
theorem dX2_begin_7 : decode cX2_begin 7 = .ok (.putfield 31, 3) := by decide +kernel
theorem dX2_begin_10 : decode cX2_begin 10 = .ok (.aload_n 0, 1) := by decide +kernel
theorem dX2_begin_11 : decode cX2_begin 11 = .ok (.invokevirtual 34, 3) := by decide +kernel
theorem dX2_begin_14 : decode cX2_begin 14 = .ok (.return_, 1) := by decide +kernel
theorem dX2_advance_0 : decode cX2_advance 0 = .ok (.aload_n 0, 1) := by decide +kernel
theorem dX2_advance_1 : decode cX2_advance 1 = .ok (.getfield 31, 3) := by decide +kernel
theorem dX2_advance_4 : decode cX2_advance 4 = .ok (.aload_n 0, 1) := by decide +kernel
theorem dX2_advance_5 : decode cX2_advance 5 = .ok (.getfield 28, 3) := by decide +kernel
theorem dX2_advance_8 : decode cX2_advance 8 = .ok (.if_icmp .ge 30, 3) := by decide +kernel
theorem dX2_advance_11 : decode cX2_advance 11 = .ok (.aload_n 0, 1) := by decide +kernel
theorem dX2_advance_12 : decode cX2_advance 12 = .ok (.aload_n 0, 1) := by decide +kernel
theorem dX2_advance_13 : decode cX2_advance 13 = .ok (.getfield 31, 3) := by decide +kernel
theorem dX2_advance_16 : decode cX2_advance 16 = .ok (.invokevirtual 37, 3) := by decide +kernel
theorem dX2_advance_19 : decode cX2_advance 19 = .ok (.invokestatic 41, 3) := by decide +kernel
theorem dX2_advance_22 : decode cX2_advance 22 = .ok (.ifCond .eq 16, 3) := by decide +kernel
theorem dX2_advance_25 : decode cX2_advance 25 = .ok (.aload_n 0, 1) := by decide +kernel
theorem dX2_advance_26 : decode cX2_advance 26 = .ok (.dup, 1) := by decide +kernel
theorem dX2_advance_27 : decode cX2_advance 27 = .ok (.getfield 31, 3) := by decide +kernel
theorem dX2_advance_30 : decode cX2_advance 30 = .ok (.iconst 1, 1) := by decide +kernel
theorem dX2_advance_31 : decode cX2_advance 31 = .ok (.iadd, 1) := by decide +kernel
theorem dX2_advance_32 : decode cX2_advance 32 = .ok (.putfield 31, 3) := by decide +kernel
theorem dX2_advance_35 : decode cX2_advance 35 = .ok (.goto (-35), 3) := by decide +kernel
theorem dX2_advance_38 : decode cX2_advance 38 = .ok (.aload_n 0, 1) := by decide +kernel
theorem dX2_advance_39 : decode cX2_advance 39 = .ok (.aload_n 0, 1) := by decide +kernel
theorem dX2_advance_40 : decode cX2_advance 40 = .ok (.getfield 31, 3) := by decide +kernel
theorem dX2_advance_43 : decode cX2_advance 43 = .ok (.putfield 18, 3) := by decide +kernel
theorem dX2_advance_46 : decode cX2_advance 46 = .ok (.aload_n 0, 1) := by decide +kernel
theorem dX2_advance_47 : decode cX2_advance 47 = .ok (.iconst 0, 1) := by decide +kernel
theorem dX2_advance_48 : decode cX2_advance 48 = .ok (.putfield 21, 3) := by decide +kernel
theorem dX2_advance_51 : decode cX2_advance 51 = .ok (.aload_n 0, 1) := by decide +kernel
theorem dX2_advance_52 : decode cX2_advance 52 = .ok (.aload_n 0, 1) := by decide +kernel
theorem dX2_advance_53 : decode cX2_advance 53 = .ok (.aload_n 0, 1) := by decide +kernel
theorem dX2_advance_54 : decode cX2_advance 54 = .ok (.getfield 18, 3) := by decide +kernel
theorem dX2_advance_57 : decode cX2_advance 57 = .ok (.invokevirtual 37, 3) := by decide +kernel
theorem dX2_advance_60 : decode cX2_advance 60 = .ok (.invokestatic 45, 3) := by decide +kernel
theorem dX2_advance_63 : decode cX2_advance 63 = .ok (.putfield 15, 3) := by decide +kernel
theorem dX2_advance_66 : decode cX2_advance 66 = .ok (.aload_n 0, 1) := by decide +kernel
theorem dX2_advance_67 : decode cX2_advance 67 = .ok (.getfield 15, 3) := by decide +kernel
theorem dX2_advance_70 : decode cX2_advance 70 = .ok (.iconst 3, 1) := by decide +kernel
theorem dX2_advance_71 : decode cX2_advance 71 = .ok (.if_icmp .eq 11, 3) := by decide +kernel
theorem dX2_advance_74 : decode cX2_advance 74 = .ok (.aload_n 0, 1) := by decide +kernel
theorem dX2_advance_75 : decode cX2_advance 75 = .ok (.getfield 15, 3) := by decide +kernel
theorem dX2_advance_78 : decode cX2_advance 78 = .ok (.iconst 4, 1) := by decide +kernel
theorem dX2_advance_79 : decode cX2_advance 79 = .ok (.if_icmp .ne 14, 3) := by decide +kernel
theorem dX2_advance_82 : decode cX2_advance 82 = .ok (.aload_n 0, 1) := by decide +kernel
theorem dX2_advance_83 : decode cX2_advance 83 = .ok (.dup, 1) := by decide +kernel
theorem dX2_advance_84 : decode cX2_advance 84 = .ok (.getfield 31, 3) := by decide +kernel
theorem dX2_advance_87 : decode cX2_advance 87 = .ok (.iconst 1, 1) := by decide +kernel
theorem dX2_advance_88 : decode cX2_advance 88 = .ok (.iadd, 1) := by decide +kernel
theorem dX2_advance_89 : decode cX2_advance 89 = .ok (.putfield 31, 3) := by decide +kernel
theorem dX2_advance_92 : decode cX2_advance 92 = .ok (.return_, 1) := by decide +kernel
theorem dX2_advance_93 : decode cX2_advance 93 = .ok (.aload_n 0, 1) := by decide +kernel
theorem dX2_advance_94 : decode cX2_advance 94 = .ok (.getfield 31, 3) := by decide +kernel
theorem dX2_advance_97 : decode cX2_advance 97 = .ok (.aload_n 0, 1) := by decide +kernel
theorem dX2_advance_98 : decode cX2_advance 98 = .ok (.getfield 28, 3) := by decide +kernel
theorem dX2_advance_101 : decode cX2_advance 101 = .ok (.if_icmp .ge 75, 3) := by decide +kernel
theorem dX2_advance_104 : decode cX2_advance 104 = .ok (.aload_n 0, 1) := by decide +kernel
theorem dX2_advance_105 : decode cX2_advance 105 = .ok (.aload_n 0, 1) := by decide +kernel
theorem dX2_advance_106 : decode cX2_advance 106 = .ok (.getfield 31, 3) := by decide +kernel
theorem dX2_advance_109 : decode cX2_advance 109 = .ok (.invokevirtual 37, 3) := by decide +kernel
theorem dX2_advance_112 : decode cX2_advance 112 = .ok (.invokestatic 45, 3) := by decide +kernel
theorem dX2_advance_115 : decode cX2_advance 115 = .ok (.aload_n 0, 1) := by decide +kernel
theorem dX2_advance_116 : decode cX2_advance 116 = .ok (.getfield 15, 3) := by decide +kernel
theorem dX2_advance_119 : decode cX2_advance 119 = .ok (.if_icmp .ne 57, 3) := by decide +kernel
theorem dX2_advance_122 : decode cX2_advance 122 = .ok (.aload_n 0, 1) := by decide +kernel
theorem dX2_advance_123 : decode cX2_advance 123 = .ok (.aload_n 0, 1) := by decide +kernel
theorem dX2_advance_124 : decode cX2_advance 124 = .ok (.getfield 15, 3) := by decide +kernel
theorem dX2_advance_127 : decode cX2_advance 127 = .ok (.iconst 2, 1) := by decide +kernel
theorem dX2_advance_128 : decode cX2_advance 128 = .ok (.if_icmp .ne 31, 3) := by decide +kernel
theorem dX2_advance_131 : decode cX2_advance 131 = .ok (.bipush 10, 2) := by decide +kernel
theorem dX2_advance_133 : decode cX2_advance 133 = .ok (.aload_n 0, 1) := by decide +kernel
theorem dX2_advance_134 : decode cX2_advance 134 = .ok (.getfield 21, 3) := by decide +kernel
theorem dX2_advance_137 : decode cX2_advance 137 = .ok (.imul, 1) := by decide +kernel
theorem dX2_advance_138 : decode cX2_advance 138 = .ok (.aload_n 0, 1) := by decide +kernel
theorem dX2_advance_139 : decode cX2_advance 139 = .ok (.aload_n 0, 1) := by decide +kernel
theorem dX2_advance_140 : decode cX2_advance 140 = .ok (.getfield 31, 3) := by decide +kernel
theorem dX2_advance_143 : decode cX2_advance 143 = .ok (.invokevirtual 37, 3) := by decide +kernel
theorem dX2_advance_146 : decode cX2_advance 146 = .ok (.iadd, 1) := by decide +kernel
theorem dX2_advance_147 : decode cX2_advance 147 = .ok (.bipush 48, 2) := by decide +kernel
theorem dX2_advance_149 : decode cX2_advance 149 = .ok (.isub, 1) := by decide +kernel
theorem dX2_advance_150 : decode cX2_advance 150 = .ok (.sipush 10000, 3) := by decide +kernel
theorem dX2_advance_153 : decode cX2_advance 153 = .ok (.invokestatic 48, 3) := by decide +kernel
theorem dX2_advance_156 : decode cX2_advance 156 = .ok (.goto 4, 3) := by decide +kernel
theorem dX2_advance_159 : decode cX2_advance 159 = .ok (.iconst 0, 1) := by decide +kernel
theorem dX2_advance_160 : decode cX2_advance 160 = .ok (.putfield 21, 3) := by decide +kernel
theorem dX2_advance_163 : decode cX2_advance 163 = .ok (.aload_n 0, 1) := by decide +kernel
theorem dX2_advance_164 : decode cX2_advance 164 = .ok (.dup, 1) := by decide +kernel
theorem dX2_advance_165 : decode cX2_advance 165 = .ok (.getfield 31, 3) := by decide +kernel
theorem dX2_advance_168 : decode cX2_advance 168 = .ok (.iconst 1, 1) := by decide +kernel
theorem dX2_advance_169 : decode cX2_advance 169 = .ok (.iadd, 1) := by decide +kernel
theorem dX2_advance_170 : decode cX2_advance 170 = .ok (.putfield 31, 3) := by decide +kernel
theorem dX2_advance_173 : decode cX2_advance 173 = .ok (.goto (-80), 3) := by decide +kernel
theorem dX2_advance_176 : decode cX2_advance 176 = .ok (.return_, 1) := by decide +kernel
theorem dX2_isWord_0 : decode cX2_isWord 0 = .ok (.aload_n 0, 1) := by decide +kernel
theorem dX2_isWord_1 : decode cX2_isWord 1 = .ok (.getfield 15, 3) := by decide +kernel
theorem dX2_isWord_4 : decode cX2_isWord 4 = .ok (.iconst 1, 1) := by decide +kernel
theorem dX2_isWord_5 : decode cX2_isWord 5 = .ok (.if_icmp .ne 14, 3) := by decide +kernel
theorem dX2_isWord_8 : decode cX2_isWord 8 = .ok (.aload_n 0, 1) := by decide +kernel
theorem dX2_isWord_9 : decode cX2_isWord 9 = .ok (.invokevirtual 54, 3) := by decide +kernel
theorem dX2_isWord_12 : decode cX2_isWord 12 = .ok (.aload_n 1, 1) := by decide +kernel
theorem dX2_isWord_13 : decode cX2_isWord 13 = .ok (.invokevirtual 58, 3) := by decide +kernel
theorem dX2_isWord_16 : decode cX2_isWord 16 = .ok (.if_icmp .eq 5, 3) := by decide +kernel
theorem dX2_isWord_19 : decode cX2_isWord 19 = .ok (.iconst 0, 1) := by decide +kernel
theorem dX2_isWord_20 : decode cX2_isWord 20 = .ok (.ireturn, 1) := by decide +kernel
theorem dX2_isWord_21 : decode cX2_isWord 21 = .ok (.iconst 0, 1) := by decide +kernel
theorem dX2_isWord_22 : decode cX2_isWord 22 = .ok (.istore_n 2, 1) := by decide +kernel
theorem dX2_isWord_23 : decode cX2_isWord 23 = .ok (.iload_n 2, 1) := by decide +kernel
theorem dX2_isWord_24 : decode cX2_isWord 24 = .ok (.aload_n 1, 1) := by decide +kernel
theorem dX2_isWord_25 : decode cX2_isWord 25 = .ok (.invokevirtual 58, 3) := by decide +kernel
theorem dX2_isWord_28 : decode cX2_isWord 28 = .ok (.if_icmp .ge 29, 3) := by decide +kernel
theorem dX2_isWord_31 : decode cX2_isWord 31 = .ok (.aload_n 0, 1) := by decide +kernel
theorem dX2_isWord_32 : decode cX2_isWord 32 = .ok (.aload_n 0, 1) := by decide +kernel
theorem dX2_isWord_33 : decode cX2_isWord 33 = .ok (.getfield 18, 3) := by decide +kernel
theorem dX2_isWord_36 : decode cX2_isWord 36 = .ok (.iload_n 2, 1) := by decide +kernel
theorem dX2_isWord_37 : decode cX2_isWord 37 = .ok (.iadd, 1) := by decide +kernel
theorem dX2_isWord_38 : decode cX2_isWord 38 = .ok (.invokevirtual 37, 3) := by decide +kernel
theorem dX2_isWord_41 : decode cX2_isWord 41 = .ok (.aload_n 1, 1) := by decide +kernel
theorem dX2_isWord_42 : decode cX2_isWord 42 = .ok (.iload_n 2, 1) := by decide +kernel
theorem dX2_isWord_43 : decode cX2_isWord 43 = .ok (.invokevirtual 62, 3) := by decide +kernel
theorem dX2_isWord_46 : decode cX2_isWord 46 = .ok (.if_icmp .eq 5, 3) := by decide +kernel
theorem dX2_isWord_49 : decode cX2_isWord 49 = .ok (.iconst 0, 1) := by decide +kernel
theorem dX2_isWord_50 : decode cX2_isWord 50 = .ok (.ireturn, 1) := by decide +kernel
theorem dX2_isWord_51 : decode cX2_isWord 51 = .ok (.iinc 2 1, 3) := by decide +kernel
theorem dX2_isWord_54 : decode cX2_isWord 54 = .ok (.goto (-31), 3) := by decide +kernel
theorem dX2_isWord_57 : decode cX2_isWord 57 = .ok (.iconst 1, 1) := by decide +kernel
theorem dX2_isWord_58 : decode cX2_isWord 58 = .ok (.ireturn, 1) := by decide +kernel
theorem dX2_tokenLength_0 : decode cX2_tokenLength 0 = .ok (.aload_n 0, 1) := by decide +kernel
theorem dX2_tokenLength_1 : decode cX2_tokenLength 1 = .ok (.getfield 31, 3) := by decide +kernel
theorem dX2_tokenLength_4 : decode cX2_tokenLength 4 = .ok (.aload_n 0, 1) := by decide +kernel
theorem dX2_tokenLength_5 : decode cX2_tokenLength 5 = .ok (.getfield 18, 3) := by decide +kernel
theorem dX2_tokenLength_8 : decode cX2_tokenLength 8 = .ok (.isub, 1) := by decide +kernel
theorem dX2_tokenLength_9 : decode cX2_tokenLength 9 = .ok (.ireturn, 1) := by decide +kernel
theorem dX2_digit_0 : decode cX2_digit 0 = .ok (.aload_n 0, 1) := by decide +kernel
theorem dX2_digit_1 : decode cX2_digit 1 = .ok (.aload_n 0, 1) := by decide +kernel
theorem dX2_digit_2 : decode cX2_digit 2 = .ok (.getfield 18, 3) := by decide +kernel
theorem dX2_digit_5 : decode cX2_digit 5 = .ok (.iload_n 1, 1) := by decide +kernel
theorem dX2_digit_6 : decode cX2_digit 6 = .ok (.iadd, 1) := by decide +kernel
theorem dX2_digit_7 : decode cX2_digit 7 = .ok (.invokevirtual 37, 3) := by decide +kernel
theorem dX2_digit_10 : decode cX2_digit 10 = .ok (.bipush 48, 2) := by decide +kernel
theorem dX2_digit_12 : decode cX2_digit 12 = .ok (.isub, 1) := by decide +kernel
theorem dX2_digit_13 : decode cX2_digit 13 = .ok (.ireturn, 1) := by decide +kernel
theorem dX2_signAt_0 : decode cX2_signAt 0 = .ok (.iload_n 1, 1) := by decide +kernel
theorem dX2_signAt_1 : decode cX2_signAt 1 = .ok (.ifCond .lt 22, 3) := by decide +kernel
theorem dX2_signAt_4 : decode cX2_signAt 4 = .ok (.iload_n 1, 1) := by decide +kernel
theorem dX2_signAt_5 : decode cX2_signAt 5 = .ok (.aload_n 0, 1) := by decide +kernel
theorem dX2_signAt_6 : decode cX2_signAt 6 = .ok (.getfield 28, 3) := by decide +kernel
theorem dX2_signAt_9 : decode cX2_signAt 9 = .ok (.if_icmp .ge 14, 3) := by decide +kernel
theorem dX2_signAt_12 : decode cX2_signAt 12 = .ok (.iload_n 1, 1) := by decide +kernel
theorem dX2_signAt_13 : decode cX2_signAt 13 = .ok (.sipush 1400, 3) := by decide +kernel
theorem dX2_signAt_16 : decode cX2_signAt 16 = .ok (.if_icmp .ge 7, 3) := by decide +kernel
theorem dX2_signAt_19 : decode cX2_signAt 19 = .ok (.iconst 1, 1) := by decide +kernel
theorem dX2_signAt_20 : decode cX2_signAt 20 = .ok (.goto 4, 3) := by decide +kernel
theorem dX2_signAt_23 : decode cX2_signAt 23 = .ok (.iconst 0, 1) := by decide +kernel
theorem dX2_signAt_24 : decode cX2_signAt 24 = .ok (.istore_n 2, 1) := by decide +kernel
theorem dX2_signAt_25 : decode cX2_signAt 25 = .ok (.iload_n 2, 1) := by decide +kernel
theorem dX2_signAt_26 : decode cX2_signAt 26 = .ok (.ifCond .eq 16, 3) := by decide +kernel
theorem dX2_signAt_29 : decode cX2_signAt 29 = .ok (.aload_n 0, 1) := by decide +kernel
theorem dX2_signAt_30 : decode cX2_signAt 30 = .ok (.getfield 24, 3) := by decide +kernel
theorem dX2_signAt_33 : decode cX2_signAt 33 = .ok (.iload_n 1, 1) := by decide +kernel
theorem dX2_signAt_34 : decode cX2_signAt 34 = .ok (.baload, 1) := by decide +kernel
theorem dX2_signAt_35 : decode cX2_signAt 35 = .ok (.sipush 255, 3) := by decide +kernel
theorem dX2_signAt_38 : decode cX2_signAt 38 = .ok (.iand, 1) := by decide +kernel
theorem dX2_signAt_39 : decode cX2_signAt 39 = .ok (.goto 4, 3) := by decide +kernel
theorem dX2_signAt_42 : decode cX2_signAt 42 = .ok (.iconst (-1), 1) := by decide +kernel
theorem dX2_signAt_43 : decode cX2_signAt 43 = .ok (.ireturn, 1) := by decide +kernel
theorem dX2_isBlank_0 : decode cX2_isBlank 0 = .ok (.iload_n 0, 1) := by decide +kernel
theorem dX2_isBlank_1 : decode cX2_isBlank 1 = .ok (.bipush 32, 2) := by decide +kernel
theorem dX2_isBlank_3 : decode cX2_isBlank 3 = .ok (.if_icmp .eq 9, 3) := by decide +kernel
theorem dX2_isBlank_6 : decode cX2_isBlank 6 = .ok (.iload_n 0, 1) := by decide +kernel
theorem dX2_isBlank_7 : decode cX2_isBlank 7 = .ok (.bipush 10, 2) := by decide +kernel
theorem dX2_isBlank_9 : decode cX2_isBlank 9 = .ok (.if_icmp .ne 7, 3) := by decide +kernel
theorem dX2_isBlank_12 : decode cX2_isBlank 12 = .ok (.iconst 1, 1) := by decide +kernel
theorem dX2_isBlank_13 : decode cX2_isBlank 13 = .ok (.goto 4, 3) := by decide +kernel
theorem dX2_isBlank_16 : decode cX2_isBlank 16 = .ok (.iconst 0, 1) := by decide +kernel
theorem dX2_isBlank_17 : decode cX2_isBlank 17 = .ok (.ireturn, 1) := by decide +kernel
theorem dX2_kindOf_0 : decode cX2_kindOf 0 = .ok (.iload_n 0, 1) := by decide +kernel
theorem dX2_kindOf_1 : decode cX2_kindOf 1 = .ok (.bipush 97, 2) := by decide +kernel
theorem dX2_kindOf_3 : decode cX2_kindOf 3 = .ok (.if_icmp .lt 11, 3) := by decide +kernel
theorem dX2_kindOf_6 : decode cX2_kindOf 6 = .ok (.iload_n 0, 1) := by decide +kernel
theorem dX2_kindOf_7 : decode cX2_kindOf 7 = .ok (.bipush 122, 2) := by decide +kernel
theorem dX2_kindOf_9 : decode cX2_kindOf 9 = .ok (.if_icmp .gt 5, 3) := by decide +kernel
theorem dX2_kindOf_12 : decode cX2_kindOf 12 = .ok (.iconst 1, 1) := by decide +kernel
theorem dX2_kindOf_13 : decode cX2_kindOf 13 = .ok (.ireturn, 1) := by decide +kernel
theorem dX2_kindOf_14 : decode cX2_kindOf 14 = .ok (.iload_n 0, 1) := by decide +kernel
theorem dX2_kindOf_15 : decode cX2_kindOf 15 = .ok (.bipush 48, 2) := by decide +kernel
theorem dX2_kindOf_17 : decode cX2_kindOf 17 = .ok (.if_icmp .lt 11, 3) := by decide +kernel
theorem dX2_kindOf_20 : decode cX2_kindOf 20 = .ok (.iload_n 0, 1) := by decide +kernel
theorem dX2_kindOf_21 : decode cX2_kindOf 21 = .ok (.bipush 57, 2) := by decide +kernel
theorem dX2_kindOf_23 : decode cX2_kindOf 23 = .ok (.if_icmp .gt 5, 3) := by decide +kernel
theorem dX2_kindOf_26 : decode cX2_kindOf 26 = .ok (.iconst 2, 1) := by decide +kernel
theorem dX2_kindOf_27 : decode cX2_kindOf 27 = .ok (.ireturn, 1) := by decide +kernel
theorem dX2_kindOf_28 : decode cX2_kindOf 28 = .ok (.iload_n 0, 1) := by decide +kernel
theorem dX2_kindOf_29 : decode cX2_kindOf 29 = .ok (.iconst (-1), 1) := by decide +kernel
theorem dX2_kindOf_30 : decode cX2_kindOf 30 = .ok (.if_icmp .ne 7, 3) := by decide +kernel
theorem dX2_kindOf_33 : decode cX2_kindOf 33 = .ok (.iconst 0, 1) := by decide +kernel
theorem dX2_kindOf_34 : decode cX2_kindOf 34 = .ok (.goto 14, 3) := by decide +kernel
theorem dX2_kindOf_37 : decode cX2_kindOf 37 = .ok (.iload_n 0, 1) := by decide +kernel
theorem dX2_kindOf_38 : decode cX2_kindOf 38 = .ok (.bipush 59, 2) := by decide +kernel
theorem dX2_kindOf_40 : decode cX2_kindOf 40 = .ok (.if_icmp .ne 7, 3) := by decide +kernel
theorem dX2_kindOf_43 : decode cX2_kindOf 43 = .ok (.iconst 3, 1) := by decide +kernel
theorem dX2_kindOf_44 : decode cX2_kindOf 44 = .ok (.goto 4, 3) := by decide +kernel
theorem dX2_kindOf_47 : decode cX2_kindOf 47 = .ok (.iconst 4, 1) := by decide +kernel
theorem dX2_kindOf_48 : decode cX2_kindOf 48 = .ok (.ireturn, 1) := by decide +kernel
theorem dX3_init_0 : decode cX3_init 0 = .ok (.aload_n 0, 1) := by decide +kernel
theorem dX3_init_1 : decode cX3_init 1 = .ok (.invokespecial 3, 3) := by decide +kernel
theorem dX3_init_4 : decode cX3_init 4 = .ok (.aload_n 0, 1) := by decide +kernel
theorem dX3_init_5 : decode cX3_init 5 = .ok (.iconst 0, 1) := by decide +kernel
theorem dX3_init_6 : decode cX3_init 6 = .ok (.putfield 9, 3) := by decide +kernel
theorem dX3_init_9 : decode cX3_init 9 = .ok (.aload_n 0, 1) := by decide +kernel
theorem dX3_init_10 : decode cX3_init 10 = .ok (.iconst 0, 1) := by decide +kernel
theorem dX3_init_11 : decode cX3_init 11 = .ok (.putfield 15, 3) := by decide +kernel
theorem dX3_init_14 : decode cX3_init 14 = .ok (.aload_n 0, 1) := by decide +kernel
theorem dX3_init_15 : decode cX3_init 15 = .ok (.bipush 10, 2) := by decide +kernel
theorem dX3_init_17 : decode cX3_init 17 = .ok (.anewarray 18, 3) := by decide +kernel
theorem dX3_init_20 : decode cX3_init 20 = .ok (.putfield 20, 3) := by decide +kernel
theorem dX3_init_23 : decode cX3_init 23 = .ok (.iconst 0, 1) := by decide +kernel
theorem dX3_init_24 : decode cX3_init 24 = .ok (.istore_n 1, 1) := by decide +kernel
theorem dX3_init_25 : decode cX3_init 25 = .ok (.iload_n 1, 1) := by decide +kernel
theorem dX3_init_26 : decode cX3_init 26 = .ok (.bipush 10, 2) := by decide +kernel
theorem dX3_init_28 : decode cX3_init 28 = .ok (.if_icmp .ge 22, 3) := by decide +kernel
theorem dX3_init_31 : decode cX3_init 31 = .ok (.aload_n 0, 1) := by decide +kernel
theorem dX3_init_32 : decode cX3_init 32 = .ok (.getfield 20, 3) := by decide +kernel
theorem dX3_init_35 : decode cX3_init 35 = .ok (.iload_n 1, 1) := by decide +kernel
theorem dX3_init_36 : decode cX3_init 36 = .ok (.new 18, 3) := by decide +kernel
theorem dX3_init_39 : decode cX3_init 39 = .ok (.dup, 1) := by decide +kernel
theorem dX3_init_40 : decode cX3_init 40 = .ok (.invokespecial 24, 3) := by decide +kernel
theorem dX3_init_43 : decode cX3_init 43 = .ok (.aastore, 1) := by decide +kernel
theorem dX3_init_44 : decode cX3_init 44 = .ok (.iinc 1 1, 3) := by decide +kernel
theorem dX3_init_47 : decode cX3_init 47 = .ok (.goto (-22), 3) := by decide +kernel
theorem dX3_init_50 : decode cX3_init 50 = .ok (.return_, 1) := by decide +kernel
theorem dX3_clear_0 : decode cX3_clear 0 = .ok (.aload_n 0, 1) := by decide +kernel
theorem dX3_clear_1 : decode cX3_clear 1 = .ok (.iconst 0, 1) := by decide +kernel
theorem dX3_clear_2 : decode cX3_clear 2 = .ok (.putfield 9, 3) := by decide +kernel
theorem dX3_clear_5 : decode cX3_clear 5 = .ok (.return_, 1) := by decide +kernel
theorem dX3_add_0 : decode cX3_add 0 = .ok (.aload_n 0, 1) := by decide +kernel
theorem dX3_add_1 : decode cX3_add 1 = .ok (.getfield 9, 3) := by decide +kernel
theorem dX3_add_4 : decode cX3_add 4 = .ok (.bipush 10, 2) := by decide +kernel
theorem dX3_add_6 : decode cX3_add 6 = .ok (.if_icmp .ne 19, 3) := by decide +kernel
theorem dX3_add_9 : decode cX3_add 9 = .ok (.aload_n 0, 1) := by decide +kernel
theorem dX3_add_10 : decode cX3_add 10 = .ok (.aload_n 0, 1) := by decide +kernel
theorem dX3_add_11 : decode cX3_add 11 = .ok (.getfield 15, 3) := by decide +kernel
theorem dX3_add_14 : decode cX3_add 14 = .ok (.iconst 1, 1) := by decide +kernel
theorem dX3_add_15 : decode cX3_add 15 = .ok (.iadd, 1) := by decide +kernel
theorem dX3_add_16 : decode cX3_add 16 = .ok (.bipush 10, 2) := by decide +kernel
theorem dX3_add_18 : decode cX3_add 18 = .ok (.irem, 1) := by decide +kernel
theorem dX3_add_19 : decode cX3_add 19 = .ok (.putfield 15, 3) := by decide +kernel
theorem dX3_add_22 : decode cX3_add 22 = .ok (.goto 13, 3) := by decide +kernel
theorem dX3_add_25 : decode cX3_add 25 = .ok (.aload_n 0, 1) := by decide +kernel
theorem dX3_add_26 : decode cX3_add 26 = .ok (.dup, 1) := by decide +kernel
theorem dX3_add_27 : decode cX3_add 27 = .ok (.getfield 9, 3) := by decide +kernel
theorem dX3_add_30 : decode cX3_add 30 = .ok (.iconst 1, 1) := by decide +kernel
theorem dX3_add_31 : decode cX3_add 31 = .ok (.iadd, 1) := by decide +kernel
theorem dX3_add_32 : decode cX3_add 32 = .ok (.putfield 9, 3) := by decide +kernel
theorem dX3_add_35 : decode cX3_add 35 = .ok (.aload_n 0, 1) := by decide +kernel
theorem dX3_add_36 : decode cX3_add 36 = .ok (.invokevirtual 25, 3) := by decide +kernel
theorem dX3_add_39 : decode cX3_add 39 = .ok (.astore 6, 2) := by decide +kernel
theorem dX3_add_41 : decode cX3_add 41 = .ok (.aload 6, 2) := by decide +kernel
theorem dX3_add_43 : decode cX3_add 43 = .ok (.iload_n 1, 1) := by decide +kernel
theorem dX3_add_44 : decode cX3_add 44 = .ok (.putfield 29, 3) := by decide +kernel
theorem dX3_add_47 : decode cX3_add 47 = .ok (.aload 6, 2) := by decide +kernel
theorem dX3_add_49 : decode cX3_add 49 = .ok (.iload_n 2, 1) := by decide +kernel
theorem dX3_add_50 : decode cX3_add 50 = .ok (.putfield 32, 3) := by decide +kernel
theorem dX3_add_53 : decode cX3_add 53 = .ok (.aload 6, 2) := by decide +kernel
theorem dX3_add_55 : decode cX3_add 55 = .ok (.iload_n 3, 1) := by decide +kernel
theorem dX3_add_56 : decode cX3_add 56 = .ok (.putfield 35, 3) := by decide +kernel
theorem dX3_add_59 : decode cX3_add 59 = .ok (.aload 6, 2) := by decide +kernel
theorem dX3_add_61 : decode cX3_add 61 = .ok (.iload 4, 2) := by decide +kernel
theorem dX3_add_63 : decode cX3_add 63 = .ok (.putfield 38, 3) := by decide +kernel
theorem dX3_add_66 : decode cX3_add 66 = .ok (.aload 6, 2) := by decide +kernel
theorem dX3_add_68 : decode cX3_add 68 = .ok (.iload 5, 2) := by decide +kernel
theorem dX3_add_70 : decode cX3_add 70 = .ok (.putfield 41, 3) := by decide +kernel
theorem dX3_add_73 : decode cX3_add 73 = .ok (.return_, 1) := by decide +kernel
theorem dX3_takeLatest_0 : decode cX3_takeLatest 0 = .ok (.aload_n 0, 1) := by decide +kernel
theorem dX3_takeLatest_1 : decode cX3_takeLatest 1 = .ok (.invokevirtual 25, 3) := by decide +kernel
theorem dX3_takeLatest_4 : decode cX3_takeLatest 4 = .ok (.astore_n 1, 1) := by decide +kernel
theorem dX3_takeLatest_5 : decode cX3_takeLatest 5 = .ok (.aload_n 0, 1) := by decide +kernel
theorem dX3_takeLatest_6 : decode cX3_takeLatest 6 = .ok (.aload_n 0, 1) := by decide +kernel
theorem dX3_takeLatest_7 : decode cX3_takeLatest 7 = .ok (.getfield 9, 3) := by decide +kernel
theorem dX3_takeLatest_10 : decode cX3_takeLatest 10 = .ok (.iconst 1, 1) := by decide +kernel
theorem dX3_takeLatest_11 : decode cX3_takeLatest 11 = .ok (.isub, 1) := by decide +kernel
theorem dX3_takeLatest_12 : decode cX3_takeLatest 12 = .ok (.iconst 0, 1) := by decide +kernel
theorem dX3_takeLatest_13 : decode cX3_takeLatest 13 = .ok (.invokestatic 44, 3) := by decide +kernel
theorem dX3_takeLatest_16 : decode cX3_takeLatest 16 = .ok (.putfield 9, 3) := by decide +kernel
theorem dX3_takeLatest_19 : decode cX3_takeLatest 19 = .ok (.aload_n 1, 1) := by decide +kernel
theorem dX3_takeLatest_20 : decode cX3_takeLatest 20 = .ok (.areturn, 1) := by decide +kernel
theorem dX3_latest_0 : decode cX3_latest 0 = .ok (.aload_n 0, 1) := by decide +kernel
theorem dX3_latest_1 : decode cX3_latest 1 = .ok (.getfield 20, 3) := by decide +kernel
theorem dX3_latest_4 : decode cX3_latest 4 = .ok (.aload_n 0, 1) := by decide +kernel
theorem dX3_latest_5 : decode cX3_latest 5 = .ok (.getfield 15, 3) := by decide +kernel
theorem dX3_latest_8 : decode cX3_latest 8 = .ok (.aload_n 0, 1) := by decide +kernel
theorem dX3_latest_9 : decode cX3_latest 9 = .ok (.getfield 9, 3) := by decide +kernel
theorem dX3_latest_12 : decode cX3_latest 12 = .ok (.iadd, 1) := by decide +kernel
theorem dX3_latest_13 : decode cX3_latest 13 = .ok (.iconst 1, 1) := by decide +kernel
theorem dX3_latest_14 : decode cX3_latest 14 = .ok (.isub, 1) := by decide +kernel
theorem dX3_latest_15 : decode cX3_latest 15 = .ok (.bipush 10, 2) := by decide +kernel
theorem dX3_latest_17 : decode cX3_latest 17 = .ok (.invokestatic 50, 3) := by decide +kernel
theorem dX3_latest_20 : decode cX3_latest 20 = .ok (.aaload, 1) := by decide +kernel
theorem dX3_latest_21 : decode cX3_latest 21 = .ok (.areturn, 1) := by decide +kernel
theorem dX4_init_0 : decode cX4_init 0 = .ok (.aload_n 0, 1) := by decide +kernel
theorem dX4_init_1 : decode cX4_init 1 = .ok (.invokespecial 3, 3) := by decide +kernel
theorem dX4_init_4 : decode cX4_init 4 = .ok (.aload_n 0, 1) := by decide +kernel
theorem dX4_init_5 : decode cX4_init 5 = .ok (.new 9, 3) := by decide +kernel
theorem dX4_init_8 : decode cX4_init 8 = .ok (.dup, 1) := by decide +kernel
theorem dX4_init_9 : decode cX4_init 9 = .ok (.invokespecial 11, 3) := by decide +kernel
theorem dX4_init_12 : decode cX4_init 12 = .ok (.putfield 12, 3) := by decide +kernel
theorem dX4_init_15 : decode cX4_init 15 = .ok (.aload_n 0, 1) := by decide +kernel
theorem dX4_init_16 : decode cX4_init 16 = .ok (.new 18, 3) := by decide +kernel
theorem dX4_init_19 : decode cX4_init 19 = .ok (.dup, 1) := by decide +kernel
theorem dX4_init_20 : decode cX4_init 20 = .ok (.invokespecial 20, 3) := by decide +kernel
theorem dX4_init_23 : decode cX4_init 23 = .ok (.putfield 21, 3) := by decide +kernel
theorem dX4_init_26 : decode cX4_init 26 = .ok (.aload_n 0, 1) := by decide +kernel
theorem dX4_init_27 : decode cX4_init 27 = .ok (.bipush 8, 2) := by decide +kernel
theorem dX4_init_29 : decode cX4_init 29 = .ok (.newarray .boolean, 2) := by decide +kernel
theorem dX4_init_31 : decode cX4_init 31 = .ok (.putfield 25, 3) := by decide +kernel
theorem dX4_init_34 : decode cX4_init 34 = .ok (.return_, 1) := by decide +kernel
theorem dX4_exchange_0 : decode cX4_exchange 0 = .ok (.aload_n 0, 1) := by decide +kernel
theorem dX4_exchange_1 : decode cX4_exchange 1 = .ok (.getfield 21, 3) := by decide +kernel
theorem dX4_exchange_4 : decode cX4_exchange 4 = .ok (.astore_n 2, 1) := by decide +kernel
theorem dX4_exchange_5 : decode cX4_exchange 5 = .ok (.aload_n 0, 1) := by decide +kernel
theorem dX4_exchange_6 : decode cX4_exchange 6 = .ok (.aload_n 1, 1) := by decide +kernel
theorem dX4_exchange_7 : decode cX4_exchange 7 = .ok (.putfield 21, 3) := by decide +kernel
theorem dX4_exchange_10 : decode cX4_exchange 10 = .ok (.aload_n 2, 1) := by decide +kernel
theorem dX4_exchange_11 : decode cX4_exchange 11 = .ok (.areturn, 1) := by decide +kernel
theorem dX4_readText_0 : decode cX4_readText 0 = .ok (.aload_n 0, 1) := by decide +kernel
theorem dX4_readText_1 : decode cX4_readText 1 = .ok (.getfield 21, 3) := by decide +kernel
theorem dX4_readText_4 : decode cX4_readText 4 = .ok (.invokevirtual 29, 3) := by decide +kernel
theorem dX4_readText_7 : decode cX4_readText 7 = .ok (.iconst 0, 1) := by decide +kernel
theorem dX4_readText_8 : decode cX4_readText 8 = .ok (.istore_n 2, 1) := by decide +kernel
theorem dX4_readText_9 : decode cX4_readText 9 = .ok (.iload_n 2, 1) := by decide +kernel
theorem dX4_readText_10 : decode cX4_readText 10 = .ok (.bipush 8, 2) := by decide +kernel
theorem dX4_readText_12 : decode cX4_readText 12 = .ok (.if_icmp .ge 16, 3) := by decide +kernel
theorem dX4_readText_15 : decode cX4_readText 15 = .ok (.aload_n 0, 1) := by decide +kernel
theorem dX4_readText_16 : decode cX4_readText 16 = .ok (.getfield 25, 3) := by decide +kernel
theorem dX4_readText_19 : decode cX4_readText 19 = .ok (.iload_n 2, 1) := by decide +kernel
theorem dX4_readText_20 : decode cX4_readText 20 = .ok (.iconst 0, 1) := by decide +kernel
theorem dX4_readText_21 : decode cX4_readText 21 = .ok (.bastore, 1) := by decide +kernel
theorem dX4_readText_22 : decode cX4_readText 22 = .ok (.iinc 2 1, 3) := by decide +kernel
theorem dX4_readText_25 : decode cX4_readText 25 = .ok (.goto (-16), 3) := by decide +kernel
theorem dX4_readText_28 : decode cX4_readText 28 = .ok (.aload_n 0, 1) := by decide +kernel
theorem dX4_readText_29 : decode cX4_readText 29 = .ok (.getfield 12, 3) := by decide +kernel
theorem dX4_readText_32 : decode cX4_readText 32 = .ok (.iload_n 1, 1) := by decide +kernel
theorem dX4_readText_33 : decode cX4_readText 33 = .ok (.invokevirtual 32, 3) := by decide +kernel
theorem dX4_readText_36 : decode cX4_readText 36 = .ok (.iconst 0, 1) := by decide +kernel
theorem dX4_readText_37 : decode cX4_readText 37 = .ok (.istore_n 2, 1) := by decide +kernel
theorem dX4_readText_38 : decode cX4_readText 38 = .ok (.aload_n 0, 1) := by decide +kernel
theorem dX4_readText_39 : decode cX4_readText 39 = .ok (.getfield 12, 3) := by decide +kernel
theorem dX4_readText_42 : decode cX4_readText 42 = .ok (.getfield 36, 3) := by decide +kernel
theorem dX4_readText_45 : decode cX4_readText 45 = .ok (.ifCond .eq 55, 3) := by decide +kernel
theorem dX4_readText_48 : decode cX4_readText 48 = .ok (.iload_n 2, 1) := by decide +kernel
theorem dX4_readText_49 : decode cX4_readText 49 = .ok (.iload_n 1, 1) := by decide +kernel
theorem dX4_readText_50 : decode cX4_readText 50 = .ok (.if_icmp .ge 50, 3) := by decide +kernel
theorem dX4_readText_53 : decode cX4_readText 53 = .ok (.aload_n 0, 1) := by decide +kernel
theorem dX4_readText_54 : decode cX4_readText 54 = .ok (.iload_n 2, 1) := by decide +kernel
theorem dX4_readText_55 : decode cX4_readText 55 = .ok (.ifCond .ne 7, 3) := by decide +kernel
theorem dX4_readText_58 : decode cX4_readText 58 = .ok (.iconst 1, 1) := by decide +kernel
theorem dX4_readText_59 : decode cX4_readText 59 = .ok (.goto 4, 3) := by decide +kernel
theorem dX4_readText_62 : decode cX4_readText 62 = .ok (.iconst 0, 1) := by decide +kernel
theorem dX4_readText_63 : decode cX4_readText 63 = .ok (.invokevirtual 40, 3) := by decide +kernel
theorem dX4_readText_66 : decode cX4_readText 66 = .ok (.istore_n 3, 1) := by decide +kernel
theorem dX4_readText_67 : decode cX4_readText 67 = .ok (.iload_n 3, 1) := by decide +kernel
theorem dX4_readText_68 : decode cX4_readText 68 = .ok (.ifCond .eq 5, 3) := by decide +kernel
theorem dX4_readText_71 : decode cX4_readText 71 = .ok (.iload_n 3, 1) := by decide +kernel
theorem dX4_readText_72 : decode cX4_readText 72 = .ok (.ireturn, 1) := by decide +kernel
theorem dX4_readText_73 : decode cX4_readText 73 = .ok (.aload_n 0, 1) := by decide +kernel
theorem dX4_readText_74 : decode cX4_readText 74 = .ok (.getfield 12, 3) := by decide +kernel
theorem dX4_readText_77 : decode cX4_readText 77 = .ok (.getfield 36, 3) := by decide +kernel
theorem dX4_readText_80 : decode cX4_readText 80 = .ok (.iconst 3, 1) := by decide +kernel
theorem dX4_readText_81 : decode cX4_readText 81 = .ok (.if_icmp .eq 6, 3) := by decide +kernel
theorem dX4_readText_84 : decode cX4_readText 84 = .ok (.bipush (-11), 2) := by decide +kernel
theorem dX4_readText_86 : decode cX4_readText 86 = .ok (.ireturn, 1) := by decide +kernel
theorem dX4_readText_87 : decode cX4_readText 87 = .ok (.aload_n 0, 1) := by decide +kernel
theorem dX4_readText_88 : decode cX4_readText 88 = .ok (.getfield 12, 3) := by decide +kernel
theorem dX4_readText_91 : decode cX4_readText 91 = .ok (.invokevirtual 44, 3) := by decide +kernel
theorem dX4_readText_94 : decode cX4_readText 94 = .ok (.iinc 2 1, 3) := by decide +kernel
theorem dX4_readText_97 : decode cX4_readText 97 = .ok (.goto (-59), 3) := by decide +kernel
theorem dX4_readText_100 : decode cX4_readText 100 = .ok (.iload_n 2, 1) := by decide +kernel
theorem dX4_readText_101 : decode cX4_readText 101 = .ok (.ireturn, 1) := by decide +kernel
theorem dX4_readStatement_0 : decode cX4_readStatement 0 = .ok (.aload_n 0, 1) := by decide +kernel
theorem dX4_readStatement_1 : decode cX4_readStatement 1 = .ok (.getfield 12, 3) := by decide +kernel
theorem dX4_readStatement_4 : decode cX4_readStatement 4 = .ok (.ldc 47, 2) := by decide +kernel
theorem dX4_readStatement_6 : decode cX4_readStatement 6 = .ok (.invokevirtual 49, 3) := by decide +kernel
theorem dX4_readStatement_9 : decode cX4_readStatement 9 = .ok (.ifCond .eq 17, 3) := by decide +kernel
theorem dX4_readStatement_12 : decode cX4_readStatement 12 = .ok (.iload_n 1, 1) := by decide +kernel
theorem dX4_readStatement_13 : decode cX4_readStatement 13 = .ok (.ifCond .eq 10, 3) := by decide +kernel
theorem dX4_readStatement_16 : decode cX4_readStatement 16 = .ok (.aload_n 0, 1) := by decide +kernel
theorem dX4_readStatement_17 : decode cX4_readStatement 17 = .ok (.invokevirtual 53, 3) := by decide +kernel
theorem dX4_readStatement_20 : decode cX4_readStatement 20 = .ok (.goto 5, 3) := by decide +kernel
theorem dX4_readStatement_23 : decode cX4_readStatement 23 = .ok (.bipush (-14), 2) := by decide +kernel
theorem dX4_readStatement_25 : decode cX4_readStatement 25 = .ok (.ireturn, 1) := by decide +kernel
theorem dX4_readStatement_26 : decode cX4_readStatement 26 = .ok (.aload_n 0, 1) := by decide +kernel
theorem dX4_readStatement_27 : decode cX4_readStatement 27 = .ok (.getfield 12, 3) := by decide +kernel
theorem dX4_readStatement_30 : decode cX4_readStatement 30 = .ok (.ldc 57, 2) := by decide +kernel
theorem dX4_readStatement_32 : decode cX4_readStatement 32 = .ok (.invokevirtual 49, 3) := by decide +kernel
theorem dX4_readStatement_35 : decode cX4_readStatement 35 = .ok (.ifCond .eq 25, 3) := by decide +kernel
theorem dX4_readStatement_38 : decode cX4_readStatement 38 = .ok (.aload_n 0, 1) := by decide +kernel
theorem dX4_readStatement_39 : decode cX4_readStatement 39 = .ok (.getfield 21, 3) := by decide +kernel
theorem dX4_readStatement_42 : decode cX4_readStatement 42 = .ok (.getfield 59, 3) := by decide +kernel
theorem dX4_readStatement_45 : decode cX4_readStatement 45 = .ok (.bipush 6, 2) := by decide +kernel
theorem dX4_readStatement_47 : decode cX4_readStatement 47 = .ok (.if_icmp .ge 10, 3) := by decide +kernel
theorem dX4_readStatement_50 : decode cX4_readStatement 50 = .ok (.aload_n 0, 1) := by decide +kernel
theorem dX4_readStatement_51 : decode cX4_readStatement 51 = .ok (.invokevirtual 62, 3) := by decide +kernel
theorem dX4_readStatement_54 : decode cX4_readStatement 54 = .ok (.goto 5, 3) := by decide +kernel
theorem dX4_readStatement_57 : decode cX4_readStatement 57 = .ok (.bipush (-15), 2) := by decide +kernel
theorem dX4_readStatement_59 : decode cX4_readStatement 59 = .ok (.ireturn, 1) := by decide +kernel
theorem dX4_readStatement_60 : decode cX4_readStatement 60 = .ok (.aload_n 0, 1) := by decide +kernel
theorem dX4_readStatement_61 : decode cX4_readStatement 61 = .ok (.getfield 12, 3) := by decide +kernel
theorem dX4_readStatement_64 : decode cX4_readStatement 64 = .ok (.ldc 65, 2) := by decide +kernel
theorem dX4_readStatement_66 : decode cX4_readStatement 66 = .ok (.invokevirtual 49, 3) := by decide +kernel
theorem dX4_readStatement_69 : decode cX4_readStatement 69 = .ok (.ifCond .eq 15, 3) := by decide +kernel
theorem dX4_readStatement_72 : decode cX4_readStatement 72 = .ok (.aload_n 0, 1) := by decide +kernel
theorem dX4_readStatement_73 : decode cX4_readStatement 73 = .ok (.aload_n 0, 1) := by decide +kernel
theorem dX4_readStatement_74 : decode cX4_readStatement 74 = .ok (.getfield 21, 3) := by decide +kernel
theorem dX4_readStatement_77 : decode cX4_readStatement 77 = .ok (.getfield 67, 3) := by decide +kernel
theorem dX4_readStatement_80 : decode cX4_readStatement 80 = .ok (.invokevirtual 71, 3) := by decide +kernel
theorem dX4_readStatement_83 : decode cX4_readStatement 83 = .ok (.ireturn, 1) := by decide +kernel
theorem dX4_readStatement_84 : decode cX4_readStatement 84 = .ok (.aload_n 0, 1) := by decide +kernel
theorem dX4_readStatement_85 : decode cX4_readStatement 85 = .ok (.getfield 12, 3) := by decide +kernel
theorem dX4_readStatement_88 : decode cX4_readStatement 88 = .ok (.ldc 75, 2) := by decide +kernel
theorem dX4_readStatement_90 : decode cX4_readStatement 90 = .ok (.invokevirtual 49, 3) := by decide +kernel
theorem dX4_readStatement_93 : decode cX4_readStatement 93 = .ok (.ifCond .eq 15, 3) := by decide +kernel
theorem dX4_readStatement_96 : decode cX4_readStatement 96 = .ok (.aload_n 0, 1) := by decide +kernel
theorem dX4_readStatement_97 : decode cX4_readStatement 97 = .ok (.aload_n 0, 1) := by decide +kernel
theorem dX4_readStatement_98 : decode cX4_readStatement 98 = .ok (.getfield 21, 3) := by decide +kernel
theorem dX4_readStatement_101 : decode cX4_readStatement 101 = .ok (.getfield 77, 3) := by decide +kernel
theorem dX4_readStatement_104 : decode cX4_readStatement 104 = .ok (.invokevirtual 71, 3) := by decide +kernel
theorem dX4_readStatement_107 : decode cX4_readStatement 107 = .ok (.ireturn, 1) := by decide +kernel
theorem dX4_readStatement_108 : decode cX4_readStatement 108 = .ok (.aload_n 0, 1) := by decide +kernel
theorem dX4_readStatement_109 : decode cX4_readStatement 109 = .ok (.getfield 12, 3) := by decide +kernel
theorem dX4_readStatement_112 : decode cX4_readStatement 112 = .ok (.ldc 80, 2) := by decide +kernel
theorem dX4_readStatement_114 : decode cX4_readStatement 114 = .ok (.invokevirtual 49, 3) := by decide +kernel
theorem dX4_readStatement_117 : decode cX4_readStatement 117 = .ok (.ifCond .eq 24, 3) := by decide +kernel
theorem dX4_readStatement_120 : decode cX4_readStatement 120 = .ok (.aload_n 0, 1) := by decide +kernel
theorem dX4_readStatement_121 : decode cX4_readStatement 121 = .ok (.getfield 21, 3) := by decide +kernel
theorem dX4_readStatement_124 : decode cX4_readStatement 124 = .ok (.getfield 82, 3) := by decide +kernel
theorem dX4_readStatement_127 : decode cX4_readStatement 127 = .ok (.iconst 3, 1) := by decide +kernel
theorem dX4_readStatement_128 : decode cX4_readStatement 128 = .ok (.if_icmp .ge 10, 3) := by decide +kernel
theorem dX4_readStatement_131 : decode cX4_readStatement 131 = .ok (.aload_n 0, 1) := by decide +kernel
theorem dX4_readStatement_132 : decode cX4_readStatement 132 = .ok (.invokevirtual 85, 3) := by decide +kernel
theorem dX4_readStatement_135 : decode cX4_readStatement 135 = .ok (.goto 5, 3) := by decide +kernel
theorem dX4_readStatement_138 : decode cX4_readStatement 138 = .ok (.bipush (-15), 2) := by decide +kernel
theorem dX4_readStatement_140 : decode cX4_readStatement 140 = .ok (.ireturn, 1) := by decide +kernel
theorem dX4_readStatement_141 : decode cX4_readStatement 141 = .ok (.aload_n 0, 1) := by decide +kernel
theorem dX4_readStatement_142 : decode cX4_readStatement 142 = .ok (.getfield 12, 3) := by decide +kernel
theorem dX4_readStatement_145 : decode cX4_readStatement 145 = .ok (.ldc 88, 2) := by decide +kernel
theorem dX4_readStatement_147 : decode cX4_readStatement 147 = .ok (.invokevirtual 49, 3) := by decide +kernel
theorem dX4_readStatement_150 : decode cX4_readStatement 150 = .ok (.ifCond .eq 10, 3) := by decide +kernel
theorem dX4_readStatement_153 : decode cX4_readStatement 153 = .ok (.aload_n 0, 1) := by decide +kernel
theorem dX4_readStatement_154 : decode cX4_readStatement 154 = .ok (.invokevirtual 90, 3) := by decide +kernel
theorem dX4_readStatement_157 : decode cX4_readStatement 157 = .ok (.goto 5, 3) := by decide +kernel
theorem dX4_readStatement_160 : decode cX4_readStatement 160 = .ok (.bipush (-11), 2) := by decide +kernel
theorem dX4_readStatement_162 : decode cX4_readStatement 162 = .ok (.ireturn, 1) := by decide +kernel
theorem dX4_readSize_0 : decode cX4_readSize 0 = .ok (.aload_n 0, 1) := by decide +kernel
theorem dX4_readSize_1 : decode cX4_readSize 1 = .ok (.iconst 4, 1) := by decide +kernel
theorem dX4_readSize_2 : decode cX4_readSize 2 = .ok (.bipush 12, 2) := by decide +kernel
theorem dX4_readSize_4 : decode cX4_readSize 4 = .ok (.invokevirtual 93, 3) := by decide +kernel
theorem dX4_readSize_7 : decode cX4_readSize 7 = .ok (.istore_n 1, 1) := by decide +kernel
theorem dX4_readSize_8 : decode cX4_readSize 8 = .ok (.iload_n 1, 1) := by decide +kernel
theorem dX4_readSize_9 : decode cX4_readSize 9 = .ok (.ifCond .eq 5, 3) := by decide +kernel
theorem dX4_readSize_12 : decode cX4_readSize 12 = .ok (.iload_n 1, 1) := by decide +kernel
theorem dX4_readSize_13 : decode cX4_readSize 13 = .ok (.ireturn, 1) := by decide +kernel
theorem dX4_readSize_14 : decode cX4_readSize 14 = .ok (.aload_n 0, 1) := by decide +kernel
theorem dX4_readSize_15 : decode cX4_readSize 15 = .ok (.getfield 21, 3) := by decide +kernel
theorem dX4_readSize_18 : decode cX4_readSize 18 = .ok (.aload_n 0, 1) := by decide +kernel
theorem dX4_readSize_19 : decode cX4_readSize 19 = .ok (.getfield 12, 3) := by decide +kernel
theorem dX4_readSize_22 : decode cX4_readSize 22 = .ok (.getfield 97, 3) := by decide +kernel
theorem dX4_readSize_25 : decode cX4_readSize 25 = .ok (.putfield 100, 3) := by decide +kernel
theorem dX4_readSize_28 : decode cX4_readSize 28 = .ok (.aload_n 0, 1) := by decide +kernel
theorem dX4_readSize_29 : decode cX4_readSize 29 = .ok (.iconst 4, 1) := by decide +kernel
theorem dX4_readSize_30 : decode cX4_readSize 30 = .ok (.bipush 10, 2) := by decide +kernel
theorem dX4_readSize_32 : decode cX4_readSize 32 = .ok (.invokevirtual 93, 3) := by decide +kernel
theorem dX4_readSize_35 : decode cX4_readSize 35 = .ok (.istore_n 1, 1) := by decide +kernel
theorem dX4_readSize_36 : decode cX4_readSize 36 = .ok (.iload_n 1, 1) := by decide +kernel
theorem dX4_readSize_37 : decode cX4_readSize 37 = .ok (.ifCond .eq 5, 3) := by decide +kernel
theorem dX4_readSize_40 : decode cX4_readSize 40 = .ok (.iload_n 1, 1) := by decide +kernel
theorem dX4_readSize_41 : decode cX4_readSize 41 = .ok (.ireturn, 1) := by decide +kernel
theorem dX4_readSize_42 : decode cX4_readSize 42 = .ok (.aload_n 0, 1) := by decide +kernel
theorem dX4_readSize_43 : decode cX4_readSize 43 = .ok (.getfield 21, 3) := by decide +kernel
theorem dX4_readSize_46 : decode cX4_readSize 46 = .ok (.aload_n 0, 1) := by decide +kernel
theorem dX4_readSize_47 : decode cX4_readSize 47 = .ok (.getfield 12, 3) := by decide +kernel
theorem dX4_readSize_50 : decode cX4_readSize 50 = .ok (.getfield 97, 3) := by decide +kernel
theorem dX4_readSize_53 : decode cX4_readSize 53 = .ok (.putfield 103, 3) := by decide +kernel
theorem dX4_readSize_56 : decode cX4_readSize 56 = .ok (.aload_n 0, 1) := by decide +kernel
theorem dX4_readSize_57 : decode cX4_readSize 57 = .ok (.getfield 12, 3) := by decide +kernel
theorem dX4_readSize_60 : decode cX4_readSize 60 = .ok (.invokevirtual 44, 3) := by decide +kernel
theorem dX4_readSize_63 : decode cX4_readSize 63 = .ok (.iconst 0, 1) := by decide +kernel
theorem dX4_readSize_64 : decode cX4_readSize 64 = .ok (.ireturn, 1) := by decide +kernel
theorem dX4_readFrame_0 : decode cX4_readFrame 0 = .ok (.aload_n 0, 1) := by decide +kernel
theorem dX4_readFrame_1 : decode cX4_readFrame 1 = .ok (.iconst 0, 1) := by decide +kernel
theorem dX4_readFrame_2 : decode cX4_readFrame 2 = .ok (.sipush 9999, 3) := by decide +kernel
theorem dX4_readFrame_5 : decode cX4_readFrame 5 = .ok (.invokevirtual 93, 3) := by decide +kernel
theorem dX4_readFrame_8 : decode cX4_readFrame 8 = .ok (.istore_n 1, 1) := by decide +kernel
theorem dX4_readFrame_9 : decode cX4_readFrame 9 = .ok (.iload_n 1, 1) := by decide +kernel
theorem dX4_readFrame_10 : decode cX4_readFrame 10 = .ok (.ifCond .eq 5, 3) := by decide +kernel
theorem dX4_readFrame_13 : decode cX4_readFrame 13 = .ok (.iload_n 1, 1) := by decide +kernel
theorem dX4_readFrame_14 : decode cX4_readFrame 14 = .ok (.ireturn, 1) := by decide +kernel
theorem dX4_readFrame_15 : decode cX4_readFrame 15 = .ok (.aload_n 0, 1) := by decide +kernel
theorem dX4_readFrame_16 : decode cX4_readFrame 16 = .ok (.getfield 12, 3) := by decide +kernel
theorem dX4_readFrame_19 : decode cX4_readFrame 19 = .ok (.getfield 97, 3) := by decide +kernel
theorem dX4_readFrame_22 : decode cX4_readFrame 22 = .ok (.aload_n 0, 1) := by decide +kernel
theorem dX4_readFrame_23 : decode cX4_readFrame 23 = .ok (.getfield 21, 3) := by decide +kernel
theorem dX4_readFrame_26 : decode cX4_readFrame 26 = .ok (.aload_n 0, 1) := by decide +kernel
theorem dX4_readFrame_27 : decode cX4_readFrame 27 = .ok (.getfield 21, 3) := by decide +kernel
theorem dX4_readFrame_30 : decode cX4_readFrame 30 = .ok (.getfield 59, 3) := by decide +kernel
theorem dX4_readFrame_33 : decode cX4_readFrame 33 = .ok (.iconst 1, 1) := by decide +kernel
theorem dX4_readFrame_34 : decode cX4_readFrame 34 = .ok (.isub, 1) := by decide +kernel
theorem dX4_readFrame_35 : decode cX4_readFrame 35 = .ok (.invokevirtual 106, 3) := by decide +kernel
theorem dX4_readFrame_38 : decode cX4_readFrame 38 = .ok (.if_icmp .gt 6, 3) := by decide +kernel
theorem dX4_readFrame_41 : decode cX4_readFrame 41 = .ok (.bipush (-14), 2) := by decide +kernel
theorem dX4_readFrame_43 : decode cX4_readFrame 43 = .ok (.ireturn, 1) := by decide +kernel
theorem dX4_readFrame_44 : decode cX4_readFrame 44 = .ok (.aload_n 0, 1) := by decide +kernel
theorem dX4_readFrame_45 : decode cX4_readFrame 45 = .ok (.getfield 21, 3) := by decide +kernel
theorem dX4_readFrame_48 : decode cX4_readFrame 48 = .ok (.aload_n 0, 1) := by decide +kernel
theorem dX4_readFrame_49 : decode cX4_readFrame 49 = .ok (.getfield 12, 3) := by decide +kernel
theorem dX4_readFrame_52 : decode cX4_readFrame 52 = .ok (.getfield 97, 3) := by decide +kernel
theorem dX4_readFrame_55 : decode cX4_readFrame 55 = .ok (.invokevirtual 110, 3) := by decide +kernel
theorem dX4_readFrame_58 : decode cX4_readFrame 58 = .ok (.istore_n 2, 1) := by decide +kernel
theorem dX4_readFrame_59 : decode cX4_readFrame 59 = .ok (.iconst 0, 1) := by decide +kernel
theorem dX4_readFrame_60 : decode cX4_readFrame 60 = .ok (.istore_n 3, 1) := by decide +kernel
theorem dX4_readFrame_61 : decode cX4_readFrame 61 = .ok (.aload_n 0, 1) := by decide +kernel
theorem dX4_readFrame_62 : decode cX4_readFrame 62 = .ok (.getfield 12, 3) := by decide +kernel
theorem dX4_readFrame_65 : decode cX4_readFrame 65 = .ok (.invokevirtual 44, 3) := by decide +kernel
theorem dX4_readFrame_68 : decode cX4_readFrame 68 = .ok (.aload_n 0, 1) := by decide +kernel
theorem dX4_readFrame_69 : decode cX4_readFrame 69 = .ok (.getfield 12, 3) := by decide +kernel
theorem dX4_readFrame_72 : decode cX4_readFrame 72 = .ok (.getfield 36, 3) := by decide +kernel
theorem dX4_readFrame_75 : decode cX4_readFrame 75 = .ok (.iconst 2, 1) := by decide +kernel
theorem dX4_readFrame_76 : decode cX4_readFrame 76 = .ok (.if_icmp .ne 67, 3) := by decide +kernel
theorem dX4_readFrame_79 : decode cX4_readFrame 79 = .ok (.iload_n 3, 1) := by decide +kernel
theorem dX4_readFrame_80 : decode cX4_readFrame 80 = .ok (.aload_n 0, 1) := by decide +kernel
theorem dX4_readFrame_81 : decode cX4_readFrame 81 = .ok (.getfield 21, 3) := by decide +kernel
theorem dX4_readFrame_84 : decode cX4_readFrame 84 = .ok (.getfield 103, 3) := by decide +kernel
theorem dX4_readFrame_87 : decode cX4_readFrame 87 = .ok (.if_icmp .gt 56, 3) := by decide +kernel
theorem dX4_readFrame_90 : decode cX4_readFrame 90 = .ok (.aload_n 0, 1) := by decide +kernel
theorem dX4_readFrame_91 : decode cX4_readFrame 91 = .ok (.getfield 12, 3) := by decide +kernel
theorem dX4_readFrame_94 : decode cX4_readFrame 94 = .ok (.invokevirtual 113, 3) := by decide +kernel
theorem dX4_readFrame_97 : decode cX4_readFrame 97 = .ok (.aload_n 0, 1) := by decide +kernel
theorem dX4_readFrame_98 : decode cX4_readFrame 98 = .ok (.getfield 21, 3) := by decide +kernel
theorem dX4_readFrame_101 : decode cX4_readFrame 101 = .ok (.getfield 100, 3) := by decide +kernel
theorem dX4_readFrame_104 : decode cX4_readFrame 104 = .ok (.if_icmp .eq 6, 3) := by decide +kernel
theorem dX4_readFrame_107 : decode cX4_readFrame 107 = .ok (.bipush (-12), 2) := by decide +kernel
theorem dX4_readFrame_109 : decode cX4_readFrame 109 = .ok (.ireturn, 1) := by decide +kernel
theorem dX4_readFrame_110 : decode cX4_readFrame 110 = .ok (.iload_n 3, 1) := by decide +kernel
theorem dX4_readFrame_111 : decode cX4_readFrame 111 = .ok (.aload_n 0, 1) := by decide +kernel
theorem dX4_readFrame_112 : decode cX4_readFrame 112 = .ok (.getfield 21, 3) := by decide +kernel
theorem dX4_readFrame_115 : decode cX4_readFrame 115 = .ok (.getfield 103, 3) := by decide +kernel
theorem dX4_readFrame_118 : decode cX4_readFrame 118 = .ok (.if_icmp .ne 6, 3) := by decide +kernel
theorem dX4_readFrame_121 : decode cX4_readFrame 121 = .ok (.bipush (-15), 2) := by decide +kernel
theorem dX4_readFrame_123 : decode cX4_readFrame 123 = .ok (.ireturn, 1) := by decide +kernel
theorem dX4_readFrame_124 : decode cX4_readFrame 124 = .ok (.aload_n 0, 1) := by decide +kernel
theorem dX4_readFrame_125 : decode cX4_readFrame 125 = .ok (.iload_n 2, 1) := by decide +kernel
theorem dX4_readFrame_126 : decode cX4_readFrame 126 = .ok (.iload_n 3, 1) := by decide +kernel
theorem dX4_readFrame_127 : decode cX4_readFrame 127 = .ok (.invokevirtual 116, 3) := by decide +kernel
theorem dX4_readFrame_130 : decode cX4_readFrame 130 = .ok (.iinc 3 1, 3) := by decide +kernel
theorem dX4_readFrame_133 : decode cX4_readFrame 133 = .ok (.aload_n 0, 1) := by decide +kernel
theorem dX4_readFrame_134 : decode cX4_readFrame 134 = .ok (.getfield 12, 3) := by decide +kernel
theorem dX4_readFrame_137 : decode cX4_readFrame 137 = .ok (.invokevirtual 44, 3) := by decide +kernel
theorem dX4_readFrame_140 : decode cX4_readFrame 140 = .ok (.goto (-72), 3) := by decide +kernel
theorem dX4_readFrame_143 : decode cX4_readFrame 143 = .ok (.aload_n 0, 1) := by decide +kernel
theorem dX4_readFrame_144 : decode cX4_readFrame 144 = .ok (.getfield 12, 3) := by decide +kernel
theorem dX4_readFrame_147 : decode cX4_readFrame 147 = .ok (.getfield 36, 3) := by decide +kernel
theorem dX4_readFrame_150 : decode cX4_readFrame 150 = .ok (.iconst 3, 1) := by decide +kernel
theorem dX4_readFrame_151 : decode cX4_readFrame 151 = .ok (.if_icmp .ne 7, 3) := by decide +kernel
theorem dX4_readFrame_154 : decode cX4_readFrame 154 = .ok (.iload_n 3, 1) := by decide +kernel
theorem dX4_readFrame_155 : decode cX4_readFrame 155 = .ok (.ifCond .ne 6, 3) := by decide +kernel
theorem dX4_readFrame_158 : decode cX4_readFrame 158 = .ok (.bipush (-11), 2) := by decide +kernel
theorem dX4_readFrame_160 : decode cX4_readFrame 160 = .ok (.ireturn, 1) := by decide +kernel
theorem dX4_readFrame_161 : decode cX4_readFrame 161 = .ok (.iload_n 3, 1) := by decide +kernel
theorem dX4_readFrame_162 : decode cX4_readFrame 162 = .ok (.aload_n 0, 1) := by decide +kernel
theorem dX4_readFrame_163 : decode cX4_readFrame 163 = .ok (.getfield 21, 3) := by decide +kernel
theorem dX4_readFrame_166 : decode cX4_readFrame 166 = .ok (.getfield 103, 3) := by decide +kernel
theorem dX4_readFrame_169 : decode cX4_readFrame 169 = .ok (.if_icmp .ge 8, 3) := by decide +kernel
theorem dX4_readFrame_172 : decode cX4_readFrame 172 = .ok (.bipush (-15), 2) := by decide +kernel
theorem dX4_readFrame_174 : decode cX4_readFrame 174 = .ok (.goto 4, 3) := by decide +kernel
theorem dX4_readFrame_177 : decode cX4_readFrame 177 = .ok (.iconst 0, 1) := by decide +kernel
theorem dX4_readFrame_178 : decode cX4_readFrame 178 = .ok (.ireturn, 1) := by decide +kernel
theorem dX4_paintRow_0 : decode cX4_paintRow 0 = .ok (.iconst 0, 1) := by decide +kernel
theorem dX4_paintRow_1 : decode cX4_paintRow 1 = .ok (.istore_n 3, 1) := by decide +kernel
theorem dX4_paintRow_2 : decode cX4_paintRow 2 = .ok (.iload_n 3, 1) := by decide +kernel
theorem dX4_paintRow_3 : decode cX4_paintRow 3 = .ok (.aload_n 0, 1) := by decide +kernel
theorem dX4_paintRow_4 : decode cX4_paintRow 4 = .ok (.getfield 21, 3) := by decide +kernel
theorem dX4_paintRow_7 : decode cX4_paintRow 7 = .ok (.getfield 100, 3) := by decide +kernel
theorem dX4_paintRow_10 : decode cX4_paintRow 10 = .ok (.if_icmp .ge 27, 3) := by decide +kernel
theorem dX4_paintRow_13 : decode cX4_paintRow 13 = .ok (.aload_n 0, 1) := by decide +kernel
theorem dX4_paintRow_14 : decode cX4_paintRow 14 = .ok (.getfield 21, 3) := by decide +kernel
theorem dX4_paintRow_17 : decode cX4_paintRow 17 = .ok (.iload_n 1, 1) := by decide +kernel
theorem dX4_paintRow_18 : decode cX4_paintRow 18 = .ok (.iload_n 3, 1) := by decide +kernel
theorem dX4_paintRow_19 : decode cX4_paintRow 19 = .ok (.iload_n 2, 1) := by decide +kernel
theorem dX4_paintRow_20 : decode cX4_paintRow 20 = .ok (.aload_n 0, 1) := by decide +kernel
theorem dX4_paintRow_21 : decode cX4_paintRow 21 = .ok (.getfield 12, 3) := by decide +kernel
theorem dX4_paintRow_24 : decode cX4_paintRow 24 = .ok (.iload_n 3, 1) := by decide +kernel
theorem dX4_paintRow_25 : decode cX4_paintRow 25 = .ok (.invokevirtual 120, 3) := by decide +kernel
theorem dX4_paintRow_28 : decode cX4_paintRow 28 = .ok (.invokevirtual 123, 3) := by decide +kernel
theorem dX4_paintRow_31 : decode cX4_paintRow 31 = .ok (.iinc 3 1, 3) := by decide +kernel
theorem dX4_paintRow_34 : decode cX4_paintRow 34 = .ok (.goto (-32), 3) := by decide +kernel
theorem dX4_paintRow_37 : decode cX4_paintRow 37 = .ok (.return_, 1) := by decide +kernel
theorem dX4_readPoint_0 : decode cX4_readPoint 0 = .ok (.aload_n 1, 1) := by decide +kernel
theorem dX4_readPoint_1 : decode cX4_readPoint 1 = .ok (.invokevirtual 127, 3) := by decide +kernel
theorem dX4_readPoint_4 : decode cX4_readPoint 4 = .ok (.ifCond .eq 6, 3) := by decide +kernel
theorem dX4_readPoint_7 : decode cX4_readPoint 7 = .ok (.bipush (-15), 2) := by decide +kernel
theorem dX4_readPoint_9 : decode cX4_readPoint 9 = .ok (.ireturn, 1) := by decide +kernel
theorem dX4_readPoint_10 : decode cX4_readPoint 10 = .ok (.aload_n 0, 1) := by decide +kernel
theorem dX4_readPoint_11 : decode cX4_readPoint 11 = .ok (.iconst 0, 1) := by decide +kernel
theorem dX4_readPoint_12 : decode cX4_readPoint 12 = .ok (.aload_n 0, 1) := by decide +kernel
theorem dX4_readPoint_13 : decode cX4_readPoint 13 = .ok (.getfield 21, 3) := by decide +kernel
theorem dX4_readPoint_16 : decode cX4_readPoint 16 = .ok (.getfield 100, 3) := by decide +kernel
theorem dX4_readPoint_19 : decode cX4_readPoint 19 = .ok (.iconst 1, 1) := by decide +kernel
theorem dX4_readPoint_20 : decode cX4_readPoint 20 = .ok (.isub, 1) := by decide +kernel
theorem dX4_readPoint_21 : decode cX4_readPoint 21 = .ok (.invokevirtual 93, 3) := by decide +kernel
theorem dX4_readPoint_24 : decode cX4_readPoint 24 = .ok (.istore_n 2, 1) := by decide +kernel
theorem dX4_readPoint_25 : decode cX4_readPoint 25 = .ok (.iload_n 2, 1) := by decide +kernel
theorem dX4_readPoint_26 : decode cX4_readPoint 26 = .ok (.ifCond .eq 5, 3) := by decide +kernel
theorem dX4_readPoint_29 : decode cX4_readPoint 29 = .ok (.iload_n 2, 1) := by decide +kernel
theorem dX4_readPoint_30 : decode cX4_readPoint 30 = .ok (.ireturn, 1) := by decide +kernel
theorem dX4_readPoint_31 : decode cX4_readPoint 31 = .ok (.aload_n 0, 1) := by decide +kernel
theorem dX4_readPoint_32 : decode cX4_readPoint 32 = .ok (.getfield 12, 3) := by decide +kernel
theorem dX4_readPoint_35 : decode cX4_readPoint 35 = .ok (.getfield 97, 3) := by decide +kernel
theorem dX4_readPoint_38 : decode cX4_readPoint 38 = .ok (.istore_n 3, 1) := by decide +kernel
theorem dX4_readPoint_39 : decode cX4_readPoint 39 = .ok (.aload_n 0, 1) := by decide +kernel
theorem dX4_readPoint_40 : decode cX4_readPoint 40 = .ok (.iconst 0, 1) := by decide +kernel
theorem dX4_readPoint_41 : decode cX4_readPoint 41 = .ok (.aload_n 0, 1) := by decide +kernel
theorem dX4_readPoint_42 : decode cX4_readPoint 42 = .ok (.getfield 21, 3) := by decide +kernel
theorem dX4_readPoint_45 : decode cX4_readPoint 45 = .ok (.getfield 103, 3) := by decide +kernel
theorem dX4_readPoint_48 : decode cX4_readPoint 48 = .ok (.iconst 1, 1) := by decide +kernel
theorem dX4_readPoint_49 : decode cX4_readPoint 49 = .ok (.isub, 1) := by decide +kernel
theorem dX4_readPoint_50 : decode cX4_readPoint 50 = .ok (.invokevirtual 93, 3) := by decide +kernel
theorem dX4_readPoint_53 : decode cX4_readPoint 53 = .ok (.istore_n 2, 1) := by decide +kernel
theorem dX4_readPoint_54 : decode cX4_readPoint 54 = .ok (.iload_n 2, 1) := by decide +kernel
theorem dX4_readPoint_55 : decode cX4_readPoint 55 = .ok (.ifCond .eq 5, 3) := by decide +kernel
theorem dX4_readPoint_58 : decode cX4_readPoint 58 = .ok (.iload_n 2, 1) := by decide +kernel
theorem dX4_readPoint_59 : decode cX4_readPoint 59 = .ok (.ireturn, 1) := by decide +kernel
theorem dX4_readPoint_60 : decode cX4_readPoint 60 = .ok (.aload_n 1, 1) := by decide +kernel
theorem dX4_readPoint_61 : decode cX4_readPoint 61 = .ok (.iload_n 3, 1) := by decide +kernel
theorem dX4_readPoint_62 : decode cX4_readPoint 62 = .ok (.aload_n 0, 1) := by decide +kernel
theorem dX4_readPoint_63 : decode cX4_readPoint 63 = .ok (.getfield 12, 3) := by decide +kernel
theorem dX4_readPoint_66 : decode cX4_readPoint 66 = .ok (.getfield 97, 3) := by decide +kernel
theorem dX4_readPoint_69 : decode cX4_readPoint 69 = .ok (.invokevirtual 133, 3) := by decide +kernel
theorem dX4_readPoint_72 : decode cX4_readPoint 72 = .ok (.aload_n 0, 1) := by decide +kernel
theorem dX4_readPoint_73 : decode cX4_readPoint 73 = .ok (.getfield 12, 3) := by decide +kernel
theorem dX4_readPoint_76 : decode cX4_readPoint 76 = .ok (.invokevirtual 44, 3) := by decide +kernel
theorem dX4_readPoint_79 : decode cX4_readPoint 79 = .ok (.iconst 0, 1) := by decide +kernel
theorem dX4_readPoint_80 : decode cX4_readPoint 80 = .ok (.ireturn, 1) := by decide +kernel
theorem dX4_readStake_0 : decode cX4_readStake 0 = .ok (.aload_n 0, 1) := by decide +kernel
theorem dX4_readStake_1 : decode cX4_readStake 1 = .ok (.getfield 21, 3) := by decide +kernel
theorem dX4_readStake_4 : decode cX4_readStake 4 = .ok (.getfield 136, 3) := by decide +kernel
theorem dX4_readStake_7 : decode cX4_readStake 7 = .ok (.aload_n 0, 1) := by decide +kernel
theorem dX4_readStake_8 : decode cX4_readStake 8 = .ok (.getfield 21, 3) := by decide +kernel
theorem dX4_readStake_11 : decode cX4_readStake 11 = .ok (.getfield 82, 3) := by decide +kernel
theorem dX4_readStake_14 : decode cX4_readStake 14 = .ok (.aaload, 1) := by decide +kernel
theorem dX4_readStake_15 : decode cX4_readStake 15 = .ok (.astore_n 1, 1) := by decide +kernel
theorem dX4_readStake_16 : decode cX4_readStake 16 = .ok (.aload_n 0, 1) := by decide +kernel
theorem dX4_readStake_17 : decode cX4_readStake 17 = .ok (.getfield 21, 3) := by decide +kernel
theorem dX4_readStake_20 : decode cX4_readStake 20 = .ok (.dup, 1) := by decide +kernel
theorem dX4_readStake_21 : decode cX4_readStake 21 = .ok (.getfield 82, 3) := by decide +kernel
theorem dX4_readStake_24 : decode cX4_readStake 24 = .ok (.iconst 1, 1) := by decide +kernel
theorem dX4_readStake_25 : decode cX4_readStake 25 = .ok (.iadd, 1) := by decide +kernel
theorem dX4_readStake_26 : decode cX4_readStake 26 = .ok (.putfield 82, 3) := by decide +kernel
theorem dX4_readStake_29 : decode cX4_readStake 29 = .ok (.aload_n 1, 1) := by decide +kernel
theorem dX4_readStake_30 : decode cX4_readStake 30 = .ok (.iconst 0, 1) := by decide +kernel
theorem dX4_readStake_31 : decode cX4_readStake 31 = .ok (.putfield 140, 3) := by decide +kernel
theorem dX4_readStake_34 : decode cX4_readStake 34 = .ok (.aload_n 0, 1) := by decide +kernel
theorem dX4_readStake_35 : decode cX4_readStake 35 = .ok (.getfield 12, 3) := by decide +kernel
theorem dX4_readStake_38 : decode cX4_readStake 38 = .ok (.invokevirtual 44, 3) := by decide +kernel
theorem dX4_readStake_41 : decode cX4_readStake 41 = .ok (.aload_n 0, 1) := by decide +kernel
theorem dX4_readStake_42 : decode cX4_readStake 42 = .ok (.aload_n 1, 1) := by decide +kernel
theorem dX4_readStake_43 : decode cX4_readStake 43 = .ok (.invokevirtual 145, 3) := by decide +kernel
theorem dX4_readStake_46 : decode cX4_readStake 46 = .ok (.istore_n 2, 1) := by decide +kernel
theorem dX4_readStake_47 : decode cX4_readStake 47 = .ok (.iconst 0, 1) := by decide +kernel
theorem dX4_readStake_48 : decode cX4_readStake 48 = .ok (.istore_n 3, 1) := by decide +kernel
theorem dX4_readStake_49 : decode cX4_readStake 49 = .ok (.iload_n 3, 1) := by decide +kernel
theorem dX4_readStake_50 : decode cX4_readStake 50 = .ok (.bipush 8, 2) := by decide +kernel
theorem dX4_readStake_52 : decode cX4_readStake 52 = .ok (.if_icmp .ge 30, 3) := by decide +kernel
theorem dX4_readStake_55 : decode cX4_readStake 55 = .ok (.iload_n 2, 1) := by decide +kernel
theorem dX4_readStake_56 : decode cX4_readStake 56 = .ok (.ifCond .ne 26, 3) := by decide +kernel
theorem dX4_readStake_59 : decode cX4_readStake 59 = .ok (.aload_n 0, 1) := by decide +kernel
theorem dX4_readStake_60 : decode cX4_readStake 60 = .ok (.getfield 12, 3) := by decide +kernel
theorem dX4_readStake_63 : decode cX4_readStake 63 = .ok (.getfield 36, 3) := by decide +kernel
theorem dX4_readStake_66 : decode cX4_readStake 66 = .ok (.iconst 2, 1) := by decide +kernel
theorem dX4_readStake_67 : decode cX4_readStake 67 = .ok (.if_icmp .ne 15, 3) := by decide +kernel
theorem dX4_readStake_70 : decode cX4_readStake 70 = .ok (.aload_n 0, 1) := by decide +kernel
theorem dX4_readStake_71 : decode cX4_readStake 71 = .ok (.aload_n 1, 1) := by decide +kernel
theorem dX4_readStake_72 : decode cX4_readStake 72 = .ok (.invokevirtual 145, 3) := by decide +kernel
theorem dX4_readStake_75 : decode cX4_readStake 75 = .ok (.istore_n 2, 1) := by decide +kernel
theorem dX4_readStake_76 : decode cX4_readStake 76 = .ok (.iinc 3 1, 3) := by decide +kernel
theorem dX4_readStake_79 : decode cX4_readStake 79 = .ok (.goto (-30), 3) := by decide +kernel
theorem dX4_readStake_82 : decode cX4_readStake 82 = .ok (.iload_n 2, 1) := by decide +kernel
theorem dX4_readStake_83 : decode cX4_readStake 83 = .ok (.ireturn, 1) := by decide +kernel
theorem dX4_readReading_0 : decode cX4_readReading 0 = .ok (.aload_n 0, 1) := by decide +kernel
theorem dX4_readReading_1 : decode cX4_readReading 1 = .ok (.iconst 0, 1) := by decide +kernel
theorem dX4_readReading_2 : decode cX4_readReading 2 = .ok (.sipush 9999, 3) := by decide +kernel
theorem dX4_readReading_5 : decode cX4_readReading 5 = .ok (.invokevirtual 149, 3) := by decide +kernel
theorem dX4_readReading_8 : decode cX4_readReading 8 = .ok (.istore_n 2, 1) := by decide +kernel
theorem dX4_readReading_9 : decode cX4_readReading 9 = .ok (.iload_n 2, 1) := by decide +kernel
theorem dX4_readReading_10 : decode cX4_readReading 10 = .ok (.ifCond .eq 5, 3) := by decide +kernel
theorem dX4_readReading_13 : decode cX4_readReading 13 = .ok (.iload_n 2, 1) := by decide +kernel
theorem dX4_readReading_14 : decode cX4_readReading 14 = .ok (.ireturn, 1) := by decide +kernel
theorem dX4_readReading_15 : decode cX4_readReading 15 = .ok (.aload_n 0, 1) := by decide +kernel
theorem dX4_readReading_16 : decode cX4_readReading 16 = .ok (.getfield 12, 3) := by decide +kernel
theorem dX4_readReading_19 : decode cX4_readReading 19 = .ok (.getfield 97, 3) := by decide +kernel
theorem dX4_readReading_22 : decode cX4_readReading 22 = .ok (.istore_n 3, 1) := by decide +kernel
theorem dX4_readReading_23 : decode cX4_readReading 23 = .ok (.aload_n 1, 1) := by decide +kernel
theorem dX4_readReading_24 : decode cX4_readReading 24 = .ok (.getfield 140, 3) := by decide +kernel
theorem dX4_readReading_27 : decode cX4_readReading 27 = .ok (.ifCond .le 21, 3) := by decide +kernel
theorem dX4_readReading_30 : decode cX4_readReading 30 = .ok (.iload_n 3, 1) := by decide +kernel
theorem dX4_readReading_31 : decode cX4_readReading 31 = .ok (.aload_n 1, 1) := by decide +kernel
theorem dX4_readReading_32 : decode cX4_readReading 32 = .ok (.getfield 152, 3) := by decide +kernel
theorem dX4_readReading_35 : decode cX4_readReading 35 = .ok (.aload_n 1, 1) := by decide +kernel
theorem dX4_readReading_36 : decode cX4_readReading 36 = .ok (.getfield 140, 3) := by decide +kernel
theorem dX4_readReading_39 : decode cX4_readReading 39 = .ok (.iconst 1, 1) := by decide +kernel
theorem dX4_readReading_40 : decode cX4_readReading 40 = .ok (.isub, 1) := by decide +kernel
theorem dX4_readReading_41 : decode cX4_readReading 41 = .ok (.iaload, 1) := by decide +kernel
theorem dX4_readReading_42 : decode cX4_readReading 42 = .ok (.if_icmp .gt 6, 3) := by decide +kernel
theorem dX4_readReading_45 : decode cX4_readReading 45 = .ok (.bipush (-14), 2) := by decide +kernel
theorem dX4_readReading_47 : decode cX4_readReading 47 = .ok (.ireturn, 1) := by decide +kernel
theorem dX4_readReading_48 : decode cX4_readReading 48 = .ok (.aload_n 1, 1) := by decide +kernel
theorem dX4_readReading_49 : decode cX4_readReading 49 = .ok (.getfield 140, 3) := by decide +kernel
theorem dX4_readReading_52 : decode cX4_readReading 52 = .ok (.bipush 8, 2) := by decide +kernel
theorem dX4_readReading_54 : decode cX4_readReading 54 = .ok (.if_icmp .lt 6, 3) := by decide +kernel
theorem dX4_readReading_57 : decode cX4_readReading 57 = .ok (.bipush (-15), 2) := by decide +kernel
theorem dX4_readReading_59 : decode cX4_readReading 59 = .ok (.ireturn, 1) := by decide +kernel
theorem dX4_readReading_60 : decode cX4_readReading 60 = .ok (.aload_n 0, 1) := by decide +kernel
theorem dX4_readReading_61 : decode cX4_readReading 61 = .ok (.getfield 12, 3) := by decide +kernel
theorem dX4_readReading_64 : decode cX4_readReading 64 = .ok (.invokevirtual 44, 3) := by decide +kernel
theorem dX4_readReading_67 : decode cX4_readReading 67 = .ok (.aload_n 0, 1) := by decide +kernel
theorem dX4_readReading_68 : decode cX4_readReading 68 = .ok (.iconst 0, 1) := by decide +kernel
theorem dX4_readReading_69 : decode cX4_readReading 69 = .ok (.sipush 9999, 3) := by decide +kernel
theorem dX4_readReading_72 : decode cX4_readReading 72 = .ok (.invokevirtual 149, 3) := by decide +kernel
theorem dX4_readReading_75 : decode cX4_readReading 75 = .ok (.istore_n 2, 1) := by decide +kernel
theorem dX4_readReading_76 : decode cX4_readReading 76 = .ok (.iload_n 2, 1) := by decide +kernel
theorem dX4_readReading_77 : decode cX4_readReading 77 = .ok (.ifCond .eq 5, 3) := by decide +kernel
theorem dX4_readReading_80 : decode cX4_readReading 80 = .ok (.iload_n 2, 1) := by decide +kernel
theorem dX4_readReading_81 : decode cX4_readReading 81 = .ok (.ireturn, 1) := by decide +kernel
theorem dX4_readReading_82 : decode cX4_readReading 82 = .ok (.aload_n 1, 1) := by decide +kernel
theorem dX4_readReading_83 : decode cX4_readReading 83 = .ok (.iload_n 3, 1) := by decide +kernel
theorem dX4_readReading_84 : decode cX4_readReading 84 = .ok (.aload_n 0, 1) := by decide +kernel
theorem dX4_readReading_85 : decode cX4_readReading 85 = .ok (.getfield 12, 3) := by decide +kernel
theorem dX4_readReading_88 : decode cX4_readReading 88 = .ok (.getfield 97, 3) := by decide +kernel
theorem dX4_readReading_91 : decode cX4_readReading 91 = .ok (.invokevirtual 156, 3) := by decide +kernel
theorem dX4_readReading_94 : decode cX4_readReading 94 = .ok (.aload_n 0, 1) := by decide +kernel
theorem dX4_readReading_95 : decode cX4_readReading 95 = .ok (.getfield 12, 3) := by decide +kernel
theorem dX4_readReading_98 : decode cX4_readReading 98 = .ok (.invokevirtual 44, 3) := by decide +kernel
theorem dX4_readReading_101 : decode cX4_readReading 101 = .ok (.iconst 0, 1) := by decide +kernel
theorem dX4_readReading_102 : decode cX4_readReading 102 = .ok (.ireturn, 1) := by decide +kernel
theorem dX4_readSetting_0 : decode cX4_readSetting 0 = .ok (.aload_n 0, 1) := by decide +kernel
theorem dX4_readSetting_1 : decode cX4_readSetting 1 = .ok (.getfield 12, 3) := by decide +kernel
theorem dX4_readSetting_4 : decode cX4_readSetting 4 = .ok (.invokevirtual 44, 3) := by decide +kernel
theorem dX4_readSetting_7 : decode cX4_readSetting 7 = .ok (.aload_n 0, 1) := by decide +kernel
theorem dX4_readSetting_8 : decode cX4_readSetting 8 = .ok (.invokevirtual 159, 3) := by decide +kernel
theorem dX4_readSetting_11 : decode cX4_readSetting 11 = .ok (.istore_n 1, 1) := by decide +kernel
theorem dX4_readSetting_12 : decode cX4_readSetting 12 = .ok (.iload_n 1, 1) := by decide +kernel
theorem dX4_readSetting_13 : decode cX4_readSetting 13 = .ok (.invokestatic 162, 3) := by decide +kernel
theorem dX4_readSetting_16 : decode cX4_readSetting 16 = .ok (.ifCond .ne 6, 3) := by decide +kernel
theorem dX4_readSetting_19 : decode cX4_readSetting 19 = .ok (.bipush (-11), 2) := by decide +kernel
theorem dX4_readSetting_21 : decode cX4_readSetting 21 = .ok (.ireturn, 1) := by decide +kernel
theorem dX4_readSetting_22 : decode cX4_readSetting 22 = .ok (.aload_n 0, 1) := by decide +kernel
theorem dX4_readSetting_23 : decode cX4_readSetting 23 = .ok (.getfield 25, 3) := by decide +kernel
theorem dX4_readSetting_26 : decode cX4_readSetting 26 = .ok (.iload_n 1, 1) := by decide +kernel
theorem dX4_readSetting_27 : decode cX4_readSetting 27 = .ok (.baload, 1) := by decide +kernel
theorem dX4_readSetting_28 : decode cX4_readSetting 28 = .ok (.ifCond .eq 6, 3) := by decide +kernel
theorem dX4_readSetting_31 : decode cX4_readSetting 31 = .ok (.bipush (-13), 2) := by decide +kernel
theorem dX4_readSetting_33 : decode cX4_readSetting 33 = .ok (.ireturn, 1) := by decide +kernel
theorem dX4_readSetting_34 : decode cX4_readSetting 34 = .ok (.aload_n 0, 1) := by decide +kernel
theorem dX4_readSetting_35 : decode cX4_readSetting 35 = .ok (.getfield 25, 3) := by decide +kernel
theorem dX4_readSetting_38 : decode cX4_readSetting 38 = .ok (.iload_n 1, 1) := by decide +kernel
theorem dX4_readSetting_39 : decode cX4_readSetting 39 = .ok (.iconst 1, 1) := by decide +kernel
theorem dX4_readSetting_40 : decode cX4_readSetting 40 = .ok (.bastore, 1) := by decide +kernel
theorem dX4_readSetting_41 : decode cX4_readSetting 41 = .ok (.aload_n 0, 1) := by decide +kernel
theorem dX4_readSetting_42 : decode cX4_readSetting 42 = .ok (.getstatic 166, 3) := by decide +kernel
theorem dX4_readSetting_45 : decode cX4_readSetting 45 = .ok (.iload_n 1, 1) := by decide +kernel
theorem dX4_readSetting_46 : decode cX4_readSetting 46 = .ok (.iaload, 1) := by decide +kernel
theorem dX4_readSetting_47 : decode cX4_readSetting 47 = .ok (.getstatic 169, 3) := by decide +kernel
theorem dX4_readSetting_50 : decode cX4_readSetting 50 = .ok (.iload_n 1, 1) := by decide +kernel
theorem dX4_readSetting_51 : decode cX4_readSetting 51 = .ok (.iaload, 1) := by decide +kernel
theorem dX4_readSetting_52 : decode cX4_readSetting 52 = .ok (.invokevirtual 93, 3) := by decide +kernel
theorem dX4_readSetting_55 : decode cX4_readSetting 55 = .ok (.istore_n 2, 1) := by decide +kernel
theorem dX4_readSetting_56 : decode cX4_readSetting 56 = .ok (.iload_n 2, 1) := by decide +kernel
theorem dX4_readSetting_57 : decode cX4_readSetting 57 = .ok (.ifCond .eq 5, 3) := by decide +kernel
theorem dX4_readSetting_60 : decode cX4_readSetting 60 = .ok (.iload_n 2, 1) := by decide +kernel
theorem dX4_readSetting_61 : decode cX4_readSetting 61 = .ok (.ireturn, 1) := by decide +kernel
theorem dX4_readSetting_62 : decode cX4_readSetting 62 = .ok (.aload_n 0, 1) := by decide +kernel
theorem dX4_readSetting_63 : decode cX4_readSetting 63 = .ok (.getfield 21, 3) := by decide +kernel
theorem dX4_readSetting_66 : decode cX4_readSetting 66 = .ok (.getfield 172, 3) := by decide +kernel
theorem dX4_readSetting_69 : decode cX4_readSetting 69 = .ok (.iload_n 1, 1) := by decide +kernel
theorem dX4_readSetting_70 : decode cX4_readSetting 70 = .ok (.aload_n 0, 1) := by decide +kernel
theorem dX4_readSetting_71 : decode cX4_readSetting 71 = .ok (.getfield 12, 3) := by decide +kernel
theorem dX4_readSetting_74 : decode cX4_readSetting 74 = .ok (.getfield 97, 3) := by decide +kernel
theorem dX4_readSetting_77 : decode cX4_readSetting 77 = .ok (.iastore, 1) := by decide +kernel
theorem dX4_readSetting_78 : decode cX4_readSetting 78 = .ok (.aload_n 0, 1) := by decide +kernel
theorem dX4_readSetting_79 : decode cX4_readSetting 79 = .ok (.getfield 12, 3) := by decide +kernel
theorem dX4_readSetting_82 : decode cX4_readSetting 82 = .ok (.invokevirtual 44, 3) := by decide +kernel
theorem dX4_readSetting_85 : decode cX4_readSetting 85 = .ok (.iconst 0, 1) := by decide +kernel
theorem dX4_readSetting_86 : decode cX4_readSetting 86 = .ok (.ireturn, 1) := by decide +kernel
theorem dX4_settingNamed_0 : decode cX4_settingNamed 0 = .ok (.aload_n 0, 1) := by decide +kernel
theorem dX4_settingNamed_1 : decode cX4_settingNamed 1 = .ok (.getfield 12, 3) := by decide +kernel
theorem dX4_settingNamed_4 : decode cX4_settingNamed 4 = .ok (.ldc 175, 2) := by decide +kernel
theorem dX4_settingNamed_6 : decode cX4_settingNamed 6 = .ok (.invokevirtual 49, 3) := by decide +kernel
theorem dX4_settingNamed_9 : decode cX4_settingNamed 9 = .ok (.ifCond .eq 7, 3) := by decide +kernel
theorem dX4_settingNamed_12 : decode cX4_settingNamed 12 = .ok (.iconst 0, 1) := by decide +kernel
theorem dX4_settingNamed_13 : decode cX4_settingNamed 13 = .ok (.goto 118, 3) := by decide +kernel
theorem dX4_settingNamed_16 : decode cX4_settingNamed 16 = .ok (.aload_n 0, 1) := by decide +kernel
theorem dX4_settingNamed_17 : decode cX4_settingNamed 17 = .ok (.getfield 12, 3) := by decide +kernel
theorem dX4_settingNamed_20 : decode cX4_settingNamed 20 = .ok (.ldc 177, 2) := by decide +kernel
theorem dX4_settingNamed_22 : decode cX4_settingNamed 22 = .ok (.invokevirtual 49, 3) := by decide +kernel
theorem dX4_settingNamed_25 : decode cX4_settingNamed 25 = .ok (.ifCond .eq 7, 3) := by decide +kernel
theorem dX4_settingNamed_28 : decode cX4_settingNamed 28 = .ok (.iconst 1, 1) := by decide +kernel
theorem dX4_settingNamed_29 : decode cX4_settingNamed 29 = .ok (.goto 102, 3) := by decide +kernel
theorem dX4_settingNamed_32 : decode cX4_settingNamed 32 = .ok (.aload_n 0, 1) := by decide +kernel
theorem dX4_settingNamed_33 : decode cX4_settingNamed 33 = .ok (.getfield 12, 3) := by decide +kernel
theorem dX4_settingNamed_36 : decode cX4_settingNamed 36 = .ok (.ldc 179, 2) := by decide +kernel
theorem dX4_settingNamed_38 : decode cX4_settingNamed 38 = .ok (.invokevirtual 49, 3) := by decide +kernel
theorem dX4_settingNamed_41 : decode cX4_settingNamed 41 = .ok (.ifCond .eq 7, 3) := by decide +kernel
theorem dX4_settingNamed_44 : decode cX4_settingNamed 44 = .ok (.iconst 2, 1) := by decide +kernel
theorem dX4_settingNamed_45 : decode cX4_settingNamed 45 = .ok (.goto 86, 3) := by decide +kernel
theorem dX4_settingNamed_48 : decode cX4_settingNamed 48 = .ok (.aload_n 0, 1) := by decide +kernel
theorem dX4_settingNamed_49 : decode cX4_settingNamed 49 = .ok (.getfield 12, 3) := by decide +kernel
theorem dX4_settingNamed_52 : decode cX4_settingNamed 52 = .ok (.ldc 181, 2) := by decide +kernel
theorem dX4_settingNamed_54 : decode cX4_settingNamed 54 = .ok (.invokevirtual 49, 3) := by decide +kernel
theorem dX4_settingNamed_57 : decode cX4_settingNamed 57 = .ok (.ifCond .eq 7, 3) := by decide +kernel
theorem dX4_settingNamed_60 : decode cX4_settingNamed 60 = .ok (.iconst 3, 1) := by decide +kernel
theorem dX4_settingNamed_61 : decode cX4_settingNamed 61 = .ok (.goto 70, 3) := by decide +kernel
theorem dX4_settingNamed_64 : decode cX4_settingNamed 64 = .ok (.aload_n 0, 1) := by decide +kernel
theorem dX4_settingNamed_65 : decode cX4_settingNamed 65 = .ok (.getfield 12, 3) := by decide +kernel
theorem dX4_settingNamed_68 : decode cX4_settingNamed 68 = .ok (.ldc 183, 2) := by decide +kernel
theorem dX4_settingNamed_70 : decode cX4_settingNamed 70 = .ok (.invokevirtual 49, 3) := by decide +kernel
theorem dX4_settingNamed_73 : decode cX4_settingNamed 73 = .ok (.ifCond .eq 7, 3) := by decide +kernel
theorem dX4_settingNamed_76 : decode cX4_settingNamed 76 = .ok (.iconst 4, 1) := by decide +kernel
theorem dX4_settingNamed_77 : decode cX4_settingNamed 77 = .ok (.goto 54, 3) := by decide +kernel
theorem dX4_settingNamed_80 : decode cX4_settingNamed 80 = .ok (.aload_n 0, 1) := by decide +kernel
theorem dX4_settingNamed_81 : decode cX4_settingNamed 81 = .ok (.getfield 12, 3) := by decide +kernel
theorem dX4_settingNamed_84 : decode cX4_settingNamed 84 = .ok (.ldc 185, 2) := by decide +kernel
theorem dX4_settingNamed_86 : decode cX4_settingNamed 86 = .ok (.invokevirtual 49, 3) := by decide +kernel
theorem dX4_settingNamed_89 : decode cX4_settingNamed 89 = .ok (.ifCond .eq 7, 3) := by decide +kernel
theorem dX4_settingNamed_92 : decode cX4_settingNamed 92 = .ok (.iconst 5, 1) := by decide +kernel
theorem dX4_settingNamed_93 : decode cX4_settingNamed 93 = .ok (.goto 38, 3) := by decide +kernel
theorem dX4_settingNamed_96 : decode cX4_settingNamed 96 = .ok (.aload_n 0, 1) := by decide +kernel
theorem dX4_settingNamed_97 : decode cX4_settingNamed 97 = .ok (.getfield 12, 3) := by decide +kernel
theorem dX4_settingNamed_100 : decode cX4_settingNamed 100 = .ok (.ldc 187, 2) := by decide +kernel
theorem dX4_settingNamed_102 : decode cX4_settingNamed 102 = .ok (.invokevirtual 49, 3) := by decide +kernel
theorem dX4_settingNamed_105 : decode cX4_settingNamed 105 = .ok (.ifCond .eq 8, 3) := by decide +kernel
theorem dX4_settingNamed_108 : decode cX4_settingNamed 108 = .ok (.bipush 6, 2) := by decide +kernel
theorem dX4_settingNamed_110 : decode cX4_settingNamed 110 = .ok (.goto 21, 3) := by decide +kernel
theorem dX4_settingNamed_113 : decode cX4_settingNamed 113 = .ok (.aload_n 0, 1) := by decide +kernel
theorem dX4_settingNamed_114 : decode cX4_settingNamed 114 = .ok (.getfield 12, 3) := by decide +kernel
theorem dX4_settingNamed_117 : decode cX4_settingNamed 117 = .ok (.ldc 189, 2) := by decide +kernel
theorem dX4_settingNamed_119 : decode cX4_settingNamed 119 = .ok (.invokevirtual 49, 3) := by decide +kernel
theorem dX4_settingNamed_122 : decode cX4_settingNamed 122 = .ok (.ifCond .eq 8, 3) := by decide +kernel
theorem dX4_settingNamed_125 : decode cX4_settingNamed 125 = .ok (.bipush 7, 2) := by decide +kernel
theorem dX4_settingNamed_127 : decode cX4_settingNamed 127 = .ok (.goto 4, 3) := by decide +kernel
theorem dX4_settingNamed_130 : decode cX4_settingNamed 130 = .ok (.iconst (-1), 1) := by decide +kernel
theorem dX4_settingNamed_131 : decode cX4_settingNamed 131 = .ok (.ireturn, 1) := by decide +kernel
theorem dX4_readNumber_0 : decode cX4_readNumber 0 = .ok (.aload_n 0, 1) := by decide +kernel
theorem dX4_readNumber_1 : decode cX4_readNumber 1 = .ok (.getfield 12, 3) := by decide +kernel
theorem dX4_readNumber_4 : decode cX4_readNumber 4 = .ok (.invokevirtual 44, 3) := by decide +kernel
theorem dX4_readNumber_7 : decode cX4_readNumber 7 = .ok (.aload_n 0, 1) := by decide +kernel
theorem dX4_readNumber_8 : decode cX4_readNumber 8 = .ok (.iload_n 1, 1) := by decide +kernel
theorem dX4_readNumber_9 : decode cX4_readNumber 9 = .ok (.iload_n 2, 1) := by decide +kernel
theorem dX4_readNumber_10 : decode cX4_readNumber 10 = .ok (.invokevirtual 149, 3) := by decide +kernel
theorem dX4_readNumber_13 : decode cX4_readNumber 13 = .ok (.ireturn, 1) := by decide +kernel
theorem dX4_checkNumber_0 : decode cX4_checkNumber 0 = .ok (.aload_n 0, 1) := by decide +kernel
theorem dX4_checkNumber_1 : decode cX4_checkNumber 1 = .ok (.getfield 12, 3) := by decide +kernel
theorem dX4_checkNumber_4 : decode cX4_checkNumber 4 = .ok (.getfield 36, 3) := by decide +kernel
theorem dX4_checkNumber_7 : decode cX4_checkNumber 7 = .ok (.iconst 2, 1) := by decide +kernel
theorem dX4_checkNumber_8 : decode cX4_checkNumber 8 = .ok (.if_icmp .eq 6, 3) := by decide +kernel
theorem dX4_checkNumber_11 : decode cX4_checkNumber 11 = .ok (.bipush (-11), 2) := by decide +kernel
theorem dX4_checkNumber_13 : decode cX4_checkNumber 13 = .ok (.ireturn, 1) := by decide +kernel
theorem dX4_checkNumber_14 : decode cX4_checkNumber 14 = .ok (.aload_n 0, 1) := by decide +kernel
theorem dX4_checkNumber_15 : decode cX4_checkNumber 15 = .ok (.getfield 12, 3) := by decide +kernel
theorem dX4_checkNumber_18 : decode cX4_checkNumber 18 = .ok (.getfield 97, 3) := by decide +kernel
theorem dX4_checkNumber_21 : decode cX4_checkNumber 21 = .ok (.iload_n 1, 1) := by decide +kernel
theorem dX4_checkNumber_22 : decode cX4_checkNumber 22 = .ok (.iload_n 2, 1) := by decide +kernel
theorem dX4_checkNumber_23 : decode cX4_checkNumber 23 = .ok (.invokestatic 191, 3) := by decide +kernel
theorem dX4_checkNumber_26 : decode cX4_checkNumber 26 = .ok (.ifCond .eq 7, 3) := by decide +kernel
theorem dX4_checkNumber_29 : decode cX4_checkNumber 29 = .ok (.iconst 0, 1) := by decide +kernel
theorem dX4_checkNumber_30 : decode cX4_checkNumber 30 = .ok (.goto 5, 3) := by decide +kernel
theorem dX4_checkNumber_33 : decode cX4_checkNumber 33 = .ok (.bipush (-12), 2) := by decide +kernel
theorem dX4_checkNumber_35 : decode cX4_checkNumber 35 = .ok (.ireturn, 1) := by decide +kernel
theorem dX5_init_0 : decode cX5_init 0 = .ok (.aload_n 0, 1) := by decide +kernel
theorem dX5_init_1 : decode cX5_init 1 = .ok (.invokespecial 3, 3) := by decide +kernel
theorem dX5_init_4 : decode cX5_init 4 = .ok (.aload_n 0, 1) := by decide +kernel
theorem dX5_init_5 : decode cX5_init 5 = .ok (.iconst 0, 1) := by decide +kernel
theorem dX5_init_6 : decode cX5_init 6 = .ok (.putfield 9, 3) := by decide +kernel
theorem dX5_init_9 : decode cX5_init 9 = .ok (.aload_n 0, 1) := by decide +kernel
theorem dX5_init_10 : decode cX5_init 10 = .ok (.iconst 0, 1) := by decide +kernel
theorem dX5_init_11 : decode cX5_init 11 = .ok (.putfield 15, 3) := by decide +kernel
theorem dX5_init_14 : decode cX5_init 14 = .ok (.aload_n 0, 1) := by decide +kernel
theorem dX5_init_15 : decode cX5_init 15 = .ok (.iconst 0, 1) := by decide +kernel
theorem dX5_init_16 : decode cX5_init 16 = .ok (.putfield 18, 3) := by decide +kernel
theorem dX5_init_19 : decode cX5_init 19 = .ok (.aload_n 0, 1) := by decide +kernel
theorem dX5_init_20 : decode cX5_init 20 = .ok (.iconst 0, 1) := by decide +kernel
theorem dX5_init_21 : decode cX5_init 21 = .ok (.putfield 21, 3) := by decide +kernel
theorem dX5_init_24 : decode cX5_init 24 = .ok (.aload_n 0, 1) := by decide +kernel
theorem dX5_init_25 : decode cX5_init 25 = .ok (.iconst 0, 1) := by decide +kernel
theorem dX5_init_26 : decode cX5_init 26 = .ok (.putfield 24, 3) := by decide +kernel
theorem dX5_init_29 : decode cX5_init 29 = .ok (.aload_n 0, 1) := by decide +kernel
theorem dX5_init_30 : decode cX5_init 30 = .ok (.iconst 0, 1) := by decide +kernel
theorem dX5_init_31 : decode cX5_init 31 = .ok (.putfield 27, 3) := by decide +kernel
theorem dX5_init_34 : decode cX5_init 34 = .ok (.return_, 1) := by decide +kernel
theorem dX5_exists_0 : decode cX5_exists 0 = .ok (.aload_n 0, 1) := by decide +kernel
theorem dX5_exists_1 : decode cX5_exists 1 = .ok (.getfield 9, 3) := by decide +kernel
theorem dX5_exists_4 : decode cX5_exists 4 = .ok (.ifCond .le 7, 3) := by decide +kernel
theorem dX5_exists_7 : decode cX5_exists 7 = .ok (.iconst 1, 1) := by decide +kernel
theorem dX5_exists_8 : decode cX5_exists 8 = .ok (.goto 4, 3) := by decide +kernel
theorem dX5_exists_11 : decode cX5_exists 11 = .ok (.iconst 0, 1) := by decide +kernel
theorem dX5_exists_12 : decode cX5_exists 12 = .ok (.ireturn, 1) := by decide +kernel
theorem dX5_search_0 : decode cX5_search 0 = .ok (.aload_n 0, 1) := by decide +kernel
theorem dX5_search_1 : decode cX5_search 1 = .ok (.iconst 0, 1) := by decide +kernel
theorem dX5_search_2 : decode cX5_search 2 = .ok (.putfield 9, 3) := by decide +kernel
theorem dX5_search_5 : decode cX5_search 5 = .ok (.aload_n 2, 1) := by decide +kernel
theorem dX5_search_6 : decode cX5_search 6 = .ok (.iload_n 3, 1) := by decide +kernel
theorem dX5_search_7 : decode cX5_search 7 = .ok (.invokevirtual 30, 3) := by decide +kernel
theorem dX5_search_10 : decode cX5_search 10 = .ok (.ifCond .eq 23, 3) := by decide +kernel
theorem dX5_search_13 : decode cX5_search 13 = .ok (.aload_n 2, 1) := by decide +kernel
theorem dX5_search_14 : decode cX5_search 14 = .ok (.iload 6, 2) := by decide +kernel
theorem dX5_search_16 : decode cX5_search 16 = .ok (.invokevirtual 30, 3) := by decide +kernel
theorem dX5_search_19 : decode cX5_search 19 = .ok (.ifCond .eq 14, 3) := by decide +kernel
theorem dX5_search_22 : decode cX5_search 22 = .ok (.aload_n 1, 1) := by decide +kernel
theorem dX5_search_23 : decode cX5_search 23 = .ok (.iload 4, 2) := by decide +kernel
theorem dX5_search_25 : decode cX5_search 25 = .ok (.iload 5, 2) := by decide +kernel
theorem dX5_search_27 : decode cX5_search 27 = .ok (.invokevirtual 36, 3) := by decide +kernel
theorem dX5_search_30 : decode cX5_search 30 = .ok (.ifCond .ne 4, 3) := by decide +kernel
theorem dX5_search_33 : decode cX5_search 33 = .ok (.return_, 1) := by decide +kernel
theorem dX5_search_34 : decode cX5_search 34 = .ok (.iload 4, 2) := by decide +kernel
theorem dX5_search_36 : decode cX5_search 36 = .ok (.aload_n 2, 1) := by decide +kernel
theorem dX5_search_37 : decode cX5_search 37 = .ok (.iload 6, 2) := by decide +kernel
theorem dX5_search_39 : decode cX5_search 39 = .ok (.invokevirtual 42, 3) := by decide +kernel
theorem dX5_search_42 : decode cX5_search 42 = .ok (.iadd, 1) := by decide +kernel
theorem dX5_search_43 : decode cX5_search 43 = .ok (.aload_n 2, 1) := by decide +kernel
theorem dX5_search_44 : decode cX5_search 44 = .ok (.iload_n 3, 1) := by decide +kernel
theorem dX5_search_45 : decode cX5_search 45 = .ok (.invokevirtual 42, 3) := by decide +kernel
theorem dX5_search_48 : decode cX5_search 48 = .ok (.isub, 1) := by decide +kernel
theorem dX5_search_49 : decode cX5_search 49 = .ok (.istore 7, 2) := by decide +kernel
theorem dX5_search_51 : decode cX5_search 51 = .ok (.iload 5, 2) := by decide +kernel
theorem dX5_search_53 : decode cX5_search 53 = .ok (.aload_n 2, 1) := by decide +kernel
theorem dX5_search_54 : decode cX5_search 54 = .ok (.iload 6, 2) := by decide +kernel
theorem dX5_search_56 : decode cX5_search 56 = .ok (.invokevirtual 46, 3) := by decide +kernel
theorem dX5_search_59 : decode cX5_search 59 = .ok (.iadd, 1) := by decide +kernel
theorem dX5_search_60 : decode cX5_search 60 = .ok (.aload_n 2, 1) := by decide +kernel
theorem dX5_search_61 : decode cX5_search 61 = .ok (.iload_n 3, 1) := by decide +kernel
theorem dX5_search_62 : decode cX5_search 62 = .ok (.invokevirtual 46, 3) := by decide +kernel
theorem dX5_search_65 : decode cX5_search 65 = .ok (.isub, 1) := by decide +kernel
theorem dX5_search_66 : decode cX5_search 66 = .ok (.istore 8, 2) := by decide +kernel
theorem dX5_search_68 : decode cX5_search 68 = .ok (.aload_n 1, 1) := by decide +kernel
theorem dX5_search_69 : decode cX5_search 69 = .ok (.getfield 49, 3) := by decide +kernel
theorem dX5_search_72 : decode cX5_search 72 = .ok (.iconst 1, 1) := by decide +kernel
theorem dX5_search_73 : decode cX5_search 73 = .ok (.iaload, 1) := by decide +kernel
theorem dX5_search_74 : decode cX5_search 74 = .ok (.istore 9, 2) := by decide +kernel
theorem dX5_search_76 : decode cX5_search 76 = .ok (.iload 9, 2) := by decide +kernel
theorem dX5_search_78 : decode cX5_search 78 = .ok (.ineg, 1) := by decide +kernel
theorem dX5_search_79 : decode cX5_search 79 = .ok (.istore 10, 2) := by decide +kernel
theorem dX5_search_81 : decode cX5_search 81 = .ok (.iload 10, 2) := by decide +kernel
theorem dX5_search_83 : decode cX5_search 83 = .ok (.iload 9, 2) := by decide +kernel
theorem dX5_search_85 : decode cX5_search 85 = .ok (.if_icmp .gt 90, 3) := by decide +kernel
theorem dX5_search_88 : decode cX5_search 88 = .ok (.iload 9, 2) := by decide +kernel
theorem dX5_search_90 : decode cX5_search 90 = .ok (.ineg, 1) := by decide +kernel
theorem dX5_search_91 : decode cX5_search 91 = .ok (.istore 11, 2) := by decide +kernel
theorem dX5_search_93 : decode cX5_search 93 = .ok (.iload 11, 2) := by decide +kernel
theorem dX5_search_95 : decode cX5_search 95 = .ok (.iload 9, 2) := by decide +kernel
theorem dX5_search_97 : decode cX5_search 97 = .ok (.if_icmp .gt 72, 3) := by decide +kernel
theorem dX5_search_100 : decode cX5_search 100 = .ok (.iload 7, 2) := by decide +kernel
theorem dX5_search_102 : decode cX5_search 102 = .ok (.iload 11, 2) := by decide +kernel
theorem dX5_search_104 : decode cX5_search 104 = .ok (.iadd, 1) := by decide +kernel
theorem dX5_search_105 : decode cX5_search 105 = .ok (.istore 12, 2) := by decide +kernel
theorem dX5_search_107 : decode cX5_search 107 = .ok (.iload 8, 2) := by decide +kernel
theorem dX5_search_109 : decode cX5_search 109 = .ok (.iload 10, 2) := by decide +kernel
theorem dX5_search_111 : decode cX5_search 111 = .ok (.iadd, 1) := by decide +kernel
theorem dX5_search_112 : decode cX5_search 112 = .ok (.istore 13, 2) := by decide +kernel
theorem dX5_search_114 : decode cX5_search 114 = .ok (.aload_n 1, 1) := by decide +kernel
theorem dX5_search_115 : decode cX5_search 115 = .ok (.iload 12, 2) := by decide +kernel
theorem dX5_search_117 : decode cX5_search 117 = .ok (.iload 13, 2) := by decide +kernel
theorem dX5_search_119 : decode cX5_search 119 = .ok (.invokevirtual 36, 3) := by decide +kernel
theorem dX5_search_122 : decode cX5_search 122 = .ok (.ifCond .eq 41, 3) := by decide +kernel
theorem dX5_search_125 : decode cX5_search 125 = .ok (.aload_n 1, 1) := by decide +kernel
theorem dX5_search_126 : decode cX5_search 126 = .ok (.iload_n 3, 1) := by decide +kernel
theorem dX5_search_127 : decode cX5_search 127 = .ok (.iload 4, 2) := by decide +kernel
theorem dX5_search_129 : decode cX5_search 129 = .ok (.iload 5, 2) := by decide +kernel
theorem dX5_search_131 : decode cX5_search 131 = .ok (.iload 6, 2) := by decide +kernel
theorem dX5_search_133 : decode cX5_search 133 = .ok (.iload 12, 2) := by decide +kernel
theorem dX5_search_135 : decode cX5_search 135 = .ok (.iload 13, 2) := by decide +kernel
theorem dX5_search_137 : decode cX5_search 137 = .ok (.invokevirtual 53, 3) := by decide +kernel
theorem dX5_search_140 : decode cX5_search 140 = .ok (.istore 14, 2) := by decide +kernel
theorem dX5_search_142 : decode cX5_search 142 = .ok (.aload_n 0, 1) := by decide +kernel
theorem dX5_search_143 : decode cX5_search 143 = .ok (.iload 12, 2) := by decide +kernel
theorem dX5_search_145 : decode cX5_search 145 = .ok (.iload 13, 2) := by decide +kernel
theorem dX5_search_147 : decode cX5_search 147 = .ok (.iload 14, 2) := by decide +kernel
theorem dX5_search_149 : decode cX5_search 149 = .ok (.iload 11, 2) := by decide +kernel
theorem dX5_search_151 : decode cX5_search 151 = .ok (.invokestatic 57, 3) := by decide +kernel
theorem dX5_search_154 : decode cX5_search 154 = .ok (.iload 10, 2) := by decide +kernel
theorem dX5_search_156 : decode cX5_search 156 = .ok (.invokestatic 57, 3) := by decide +kernel
theorem dX5_search_159 : decode cX5_search 159 = .ok (.iadd, 1) := by decide +kernel
theorem dX5_search_160 : decode cX5_search 160 = .ok (.invokevirtual 62, 3) := by decide +kernel
theorem dX5_search_163 : decode cX5_search 163 = .ok (.iinc 11 1, 3) := by decide +kernel
theorem dX5_search_166 : decode cX5_search 166 = .ok (.goto (-73), 3) := by decide +kernel
theorem dX5_search_169 : decode cX5_search 169 = .ok (.iinc 10 1, 3) := by decide +kernel
theorem dX5_search_172 : decode cX5_search 172 = .ok (.goto (-91), 3) := by decide +kernel
theorem dX5_search_175 : decode cX5_search 175 = .ok (.return_, 1) := by decide +kernel
theorem dX5_consider_0 : decode cX5_consider 0 = .ok (.aload_n 0, 1) := by decide +kernel
theorem dX5_consider_1 : decode cX5_consider 1 = .ok (.getfield 9, 3) := by decide +kernel
theorem dX5_consider_4 : decode cX5_consider 4 = .ok (.ifCond .eq 28, 3) := by decide +kernel
theorem dX5_consider_7 : decode cX5_consider 7 = .ok (.iload_n 3, 1) := by decide +kernel
theorem dX5_consider_8 : decode cX5_consider 8 = .ok (.aload_n 0, 1) := by decide +kernel
theorem dX5_consider_9 : decode cX5_consider 9 = .ok (.getfield 21, 3) := by decide +kernel
theorem dX5_consider_12 : decode cX5_consider 12 = .ok (.if_icmp .lt 20, 3) := by decide +kernel
theorem dX5_consider_15 : decode cX5_consider 15 = .ok (.iload_n 3, 1) := by decide +kernel
theorem dX5_consider_16 : decode cX5_consider 16 = .ok (.aload_n 0, 1) := by decide +kernel
theorem dX5_consider_17 : decode cX5_consider 17 = .ok (.getfield 21, 3) := by decide +kernel
theorem dX5_consider_20 : decode cX5_consider 20 = .ok (.if_icmp .ne 16, 3) := by decide +kernel
theorem dX5_consider_23 : decode cX5_consider 23 = .ok (.iload 4, 2) := by decide +kernel
theorem dX5_consider_25 : decode cX5_consider 25 = .ok (.aload_n 0, 1) := by decide +kernel
theorem dX5_consider_26 : decode cX5_consider 26 = .ok (.getfield 27, 3) := by decide +kernel
theorem dX5_consider_29 : decode cX5_consider 29 = .ok (.if_icmp .ge 7, 3) := by decide +kernel
theorem dX5_consider_32 : decode cX5_consider 32 = .ok (.iconst 1, 1) := by decide +kernel
theorem dX5_consider_33 : decode cX5_consider 33 = .ok (.goto 4, 3) := by decide +kernel
theorem dX5_consider_36 : decode cX5_consider 36 = .ok (.iconst 0, 1) := by decide +kernel
theorem dX5_consider_37 : decode cX5_consider 37 = .ok (.istore 5, 2) := by decide +kernel
theorem dX5_consider_39 : decode cX5_consider 39 = .ok (.iload 5, 2) := by decide +kernel
theorem dX5_consider_41 : decode cX5_consider 41 = .ok (.ifCond .eq 35, 3) := by decide +kernel
theorem dX5_consider_44 : decode cX5_consider 44 = .ok (.aload_n 0, 1) := by decide +kernel
theorem dX5_consider_45 : decode cX5_consider 45 = .ok (.aload_n 0, 1) := by decide +kernel
theorem dX5_consider_46 : decode cX5_consider 46 = .ok (.getfield 21, 3) := by decide +kernel
theorem dX5_consider_49 : decode cX5_consider 49 = .ok (.putfield 24, 3) := by decide +kernel
theorem dX5_consider_52 : decode cX5_consider 52 = .ok (.aload_n 0, 1) := by decide +kernel
theorem dX5_consider_53 : decode cX5_consider 53 = .ok (.iload_n 1, 1) := by decide +kernel
theorem dX5_consider_54 : decode cX5_consider 54 = .ok (.putfield 15, 3) := by decide +kernel
theorem dX5_consider_57 : decode cX5_consider 57 = .ok (.aload_n 0, 1) := by decide +kernel
theorem dX5_consider_58 : decode cX5_consider 58 = .ok (.iload_n 2, 1) := by decide +kernel
theorem dX5_consider_59 : decode cX5_consider 59 = .ok (.putfield 18, 3) := by decide +kernel
theorem dX5_consider_62 : decode cX5_consider 62 = .ok (.aload_n 0, 1) := by decide +kernel
theorem dX5_consider_63 : decode cX5_consider 63 = .ok (.iload_n 3, 1) := by decide +kernel
theorem dX5_consider_64 : decode cX5_consider 64 = .ok (.putfield 21, 3) := by decide +kernel
theorem dX5_consider_67 : decode cX5_consider 67 = .ok (.aload_n 0, 1) := by decide +kernel
theorem dX5_consider_68 : decode cX5_consider 68 = .ok (.iload 4, 2) := by decide +kernel
theorem dX5_consider_70 : decode cX5_consider 70 = .ok (.putfield 27, 3) := by decide +kernel
theorem dX5_consider_73 : decode cX5_consider 73 = .ok (.goto 24, 3) := by decide +kernel
theorem dX5_consider_76 : decode cX5_consider 76 = .ok (.aload_n 0, 1) := by decide +kernel
theorem dX5_consider_77 : decode cX5_consider 77 = .ok (.getfield 9, 3) := by decide +kernel
theorem dX5_consider_80 : decode cX5_consider 80 = .ok (.iconst 1, 1) := by decide +kernel
theorem dX5_consider_81 : decode cX5_consider 81 = .ok (.if_icmp .eq 11, 3) := by decide +kernel
theorem dX5_consider_84 : decode cX5_consider 84 = .ok (.iload_n 3, 1) := by decide +kernel
theorem dX5_consider_85 : decode cX5_consider 85 = .ok (.aload_n 0, 1) := by decide +kernel
theorem dX5_consider_86 : decode cX5_consider 86 = .ok (.getfield 24, 3) := by decide +kernel
theorem dX5_consider_89 : decode cX5_consider 89 = .ok (.if_icmp .ge 8, 3) := by decide +kernel
theorem dX5_consider_92 : decode cX5_consider 92 = .ok (.aload_n 0, 1) := by decide +kernel
theorem dX5_consider_93 : decode cX5_consider 93 = .ok (.iload_n 3, 1) := by decide +kernel
theorem dX5_consider_94 : decode cX5_consider 94 = .ok (.putfield 24, 3) := by decide +kernel
theorem dX5_consider_97 : decode cX5_consider 97 = .ok (.aload_n 0, 1) := by decide +kernel
theorem dX5_consider_98 : decode cX5_consider 98 = .ok (.dup, 1) := by decide +kernel
theorem dX5_consider_99 : decode cX5_consider 99 = .ok (.getfield 9, 3) := by decide +kernel
theorem dX5_consider_102 : decode cX5_consider 102 = .ok (.iconst 1, 1) := by decide +kernel
theorem dX5_consider_103 : decode cX5_consider 103 = .ok (.iadd, 1) := by decide +kernel
theorem dX5_consider_104 : decode cX5_consider 104 = .ok (.putfield 9, 3) := by decide +kernel
theorem dX5_consider_107 : decode cX5_consider 107 = .ok (.return_, 1) := by decide +kernel
theorem dX6_init_0 : decode cX6_init 0 = .ok (.aload_n 0, 1) := by decide +kernel
theorem dX6_init_1 : decode cX6_init 1 = .ok (.invokespecial 3, 3) := by decide +kernel
theorem dX6_init_4 : decode cX6_init 4 = .ok (.aload_n 0, 1) := by decide +kernel
theorem dX6_init_5 : decode cX6_init 5 = .ok (.iconst (-1), 1) := by decide +kernel
theorem dX6_init_6 : decode cX6_init 6 = .ok (.putfield 9, 3) := by decide +kernel
theorem dX6_init_9 : decode cX6_init 9 = .ok (.aload_n 0, 1) := by decide +kernel
theorem dX6_init_10 : decode cX6_init 10 = .ok (.iconst (-1), 1) := by decide +kernel
theorem dX6_init_11 : decode cX6_init 11 = .ok (.putfield 15, 3) := by decide +kernel
theorem dX6_init_14 : decode cX6_init 14 = .ok (.aload_n 0, 1) := by decide +kernel
theorem dX6_init_15 : decode cX6_init 15 = .ok (.bipush 6, 2) := by decide +kernel
theorem dX6_init_17 : decode cX6_init 17 = .ok (.newarray .boolean, 2) := by decide +kernel
theorem dX6_init_19 : decode cX6_init 19 = .ok (.putfield 18, 3) := by decide +kernel
theorem dX6_init_22 : decode cX6_init 22 = .ok (.aload_n 0, 1) := by decide +kernel
theorem dX6_init_23 : decode cX6_init 23 = .ok (.bipush 6, 2) := by decide +kernel
theorem dX6_init_25 : decode cX6_init 25 = .ok (.newarray .int, 2) := by decide +kernel
theorem dX6_init_27 : decode cX6_init 27 = .ok (.putfield 22, 3) := by decide +kernel
theorem dX6_init_30 : decode cX6_init 30 = .ok (.aload_n 0, 1) := by decide +kernel
theorem dX6_init_31 : decode cX6_init 31 = .ok (.bipush 6, 2) := by decide +kernel
theorem dX6_init_33 : decode cX6_init 33 = .ok (.newarray .int, 2) := by decide +kernel
theorem dX6_init_35 : decode cX6_init 35 = .ok (.putfield 26, 3) := by decide +kernel
theorem dX6_init_38 : decode cX6_init 38 = .ok (.aload_n 0, 1) := by decide +kernel
theorem dX6_init_39 : decode cX6_init 39 = .ok (.bipush 6, 2) := by decide +kernel
theorem dX6_init_41 : decode cX6_init 41 = .ok (.newarray .int, 2) := by decide +kernel
theorem dX6_init_43 : decode cX6_init 43 = .ok (.putfield 29, 3) := by decide +kernel
theorem dX6_init_46 : decode cX6_init 46 = .ok (.return_, 1) := by decide +kernel
theorem dX6_covers_0 : decode cX6_covers 0 = .ok (.iload_n 1, 1) := by decide +kernel
theorem dX6_covers_1 : decode cX6_covers 1 = .ok (.ifCond .lt 22, 3) := by decide +kernel
theorem dX6_covers_4 : decode cX6_covers 4 = .ok (.iload_n 1, 1) := by decide +kernel
theorem dX6_covers_5 : decode cX6_covers 5 = .ok (.bipush 6, 2) := by decide +kernel
theorem dX6_covers_7 : decode cX6_covers 7 = .ok (.if_icmp .ge 16, 3) := by decide +kernel
theorem dX6_covers_10 : decode cX6_covers 10 = .ok (.aload_n 0, 1) := by decide +kernel
theorem dX6_covers_11 : decode cX6_covers 11 = .ok (.getfield 18, 3) := by decide +kernel
theorem dX6_covers_14 : decode cX6_covers 14 = .ok (.iload_n 1, 1) := by decide +kernel
theorem dX6_covers_15 : decode cX6_covers 15 = .ok (.baload, 1) := by decide +kernel
theorem dX6_covers_16 : decode cX6_covers 16 = .ok (.ifCond .eq 7, 3) := by decide +kernel
theorem dX6_covers_19 : decode cX6_covers 19 = .ok (.iconst 1, 1) := by decide +kernel
theorem dX6_covers_20 : decode cX6_covers 20 = .ok (.goto 4, 3) := by decide +kernel
theorem dX6_covers_23 : decode cX6_covers 23 = .ok (.iconst 0, 1) := by decide +kernel
theorem dX6_covers_24 : decode cX6_covers 24 = .ok (.ireturn, 1) := by decide +kernel
theorem dX6_xShiftOf_0 : decode cX6_xShiftOf 0 = .ok (.aload_n 0, 1) := by decide +kernel
theorem dX6_xShiftOf_1 : decode cX6_xShiftOf 1 = .ok (.iload_n 1, 1) := by decide +kernel
theorem dX6_xShiftOf_2 : decode cX6_xShiftOf 2 = .ok (.invokevirtual 32, 3) := by decide +kernel
theorem dX6_xShiftOf_5 : decode cX6_xShiftOf 5 = .ok (.ifCond .eq 12, 3) := by decide +kernel
theorem dX6_xShiftOf_8 : decode cX6_xShiftOf 8 = .ok (.aload_n 0, 1) := by decide +kernel
theorem dX6_xShiftOf_9 : decode cX6_xShiftOf 9 = .ok (.getfield 22, 3) := by decide +kernel
theorem dX6_xShiftOf_12 : decode cX6_xShiftOf 12 = .ok (.iload_n 1, 1) := by decide +kernel
theorem dX6_xShiftOf_13 : decode cX6_xShiftOf 13 = .ok (.iaload, 1) := by decide +kernel
theorem dX6_xShiftOf_14 : decode cX6_xShiftOf 14 = .ok (.goto 4, 3) := by decide +kernel
theorem dX6_xShiftOf_17 : decode cX6_xShiftOf 17 = .ok (.iconst 0, 1) := by decide +kernel
theorem dX6_xShiftOf_18 : decode cX6_xShiftOf 18 = .ok (.ireturn, 1) := by decide +kernel
theorem dX6_yShiftOf_0 : decode cX6_yShiftOf 0 = .ok (.aload_n 0, 1) := by decide +kernel
theorem dX6_yShiftOf_1 : decode cX6_yShiftOf 1 = .ok (.iload_n 1, 1) := by decide +kernel
theorem dX6_yShiftOf_2 : decode cX6_yShiftOf 2 = .ok (.invokevirtual 32, 3) := by decide +kernel
theorem dX6_yShiftOf_5 : decode cX6_yShiftOf 5 = .ok (.ifCond .eq 12, 3) := by decide +kernel
theorem dX6_yShiftOf_8 : decode cX6_yShiftOf 8 = .ok (.aload_n 0, 1) := by decide +kernel
theorem dX6_yShiftOf_9 : decode cX6_yShiftOf 9 = .ok (.getfield 26, 3) := by decide +kernel
theorem dX6_yShiftOf_12 : decode cX6_yShiftOf 12 = .ok (.iload_n 1, 1) := by decide +kernel
theorem dX6_yShiftOf_13 : decode cX6_yShiftOf 13 = .ok (.iaload, 1) := by decide +kernel
theorem dX6_yShiftOf_14 : decode cX6_yShiftOf 14 = .ok (.goto 4, 3) := by decide +kernel
theorem dX6_yShiftOf_17 : decode cX6_yShiftOf 17 = .ok (.iconst 0, 1) := by decide +kernel
theorem dX6_yShiftOf_18 : decode cX6_yShiftOf 18 = .ok (.ireturn, 1) := by decide +kernel
theorem dX6_errorOf_0 : decode cX6_errorOf 0 = .ok (.aload_n 0, 1) := by decide +kernel
theorem dX6_errorOf_1 : decode cX6_errorOf 1 = .ok (.iload_n 1, 1) := by decide +kernel
theorem dX6_errorOf_2 : decode cX6_errorOf 2 = .ok (.invokevirtual 32, 3) := by decide +kernel
theorem dX6_errorOf_5 : decode cX6_errorOf 5 = .ok (.ifCond .eq 12, 3) := by decide +kernel
theorem dX6_errorOf_8 : decode cX6_errorOf 8 = .ok (.aload_n 0, 1) := by decide +kernel
theorem dX6_errorOf_9 : decode cX6_errorOf 9 = .ok (.getfield 29, 3) := by decide +kernel
theorem dX6_errorOf_12 : decode cX6_errorOf 12 = .ok (.iload_n 1, 1) := by decide +kernel
theorem dX6_errorOf_13 : decode cX6_errorOf 13 = .ok (.iaload, 1) := by decide +kernel
theorem dX6_errorOf_14 : decode cX6_errorOf 14 = .ok (.goto 4, 3) := by decide +kernel
theorem dX6_errorOf_17 : decode cX6_errorOf 17 = .ok (.iconst (-1), 1) := by decide +kernel
theorem dX6_errorOf_18 : decode cX6_errorOf 18 = .ok (.ireturn, 1) := by decide +kernel
theorem dX6_begin_0 : decode cX6_begin 0 = .ok (.aload_n 0, 1) := by decide +kernel
theorem dX6_begin_1 : decode cX6_begin 1 = .ok (.iload_n 1, 1) := by decide +kernel
theorem dX6_begin_2 : decode cX6_begin 2 = .ok (.putfield 15, 3) := by decide +kernel
theorem dX6_begin_5 : decode cX6_begin 5 = .ok (.iconst 0, 1) := by decide +kernel
theorem dX6_begin_6 : decode cX6_begin 6 = .ok (.istore_n 2, 1) := by decide +kernel
theorem dX6_begin_7 : decode cX6_begin 7 = .ok (.iload_n 2, 1) := by decide +kernel
theorem dX6_begin_8 : decode cX6_begin 8 = .ok (.bipush 6, 2) := by decide +kernel
theorem dX6_begin_10 : decode cX6_begin 10 = .ok (.if_icmp .ge 16, 3) := by decide +kernel
theorem dX6_begin_13 : decode cX6_begin 13 = .ok (.aload_n 0, 1) := by decide +kernel
theorem dX6_begin_14 : decode cX6_begin 14 = .ok (.getfield 18, 3) := by decide +kernel
theorem dX6_begin_17 : decode cX6_begin 17 = .ok (.iload_n 2, 1) := by decide +kernel
theorem dX6_begin_18 : decode cX6_begin 18 = .ok (.iconst 0, 1) := by decide +kernel
theorem dX6_begin_19 : decode cX6_begin 19 = .ok (.bastore, 1) := by decide +kernel
theorem dX6_begin_20 : decode cX6_begin 20 = .ok (.iinc 2 1, 3) := by decide +kernel
theorem dX6_begin_23 : decode cX6_begin 23 = .ok (.goto (-16), 3) := by decide +kernel
theorem dX6_begin_26 : decode cX6_begin 26 = .ok (.aload_n 0, 1) := by decide +kernel
theorem dX6_begin_27 : decode cX6_begin 27 = .ok (.aload_n 0, 1) := by decide +kernel
theorem dX6_begin_28 : decode cX6_begin 28 = .ok (.getfield 15, 3) := by decide +kernel
theorem dX6_begin_31 : decode cX6_begin 31 = .ok (.iconst 0, 1) := by decide +kernel
theorem dX6_begin_32 : decode cX6_begin 32 = .ok (.iconst 0, 1) := by decide +kernel
theorem dX6_begin_33 : decode cX6_begin 33 = .ok (.iconst 0, 1) := by decide +kernel
theorem dX6_begin_34 : decode cX6_begin 34 = .ok (.invokevirtual 36, 3) := by decide +kernel
theorem dX6_begin_37 : decode cX6_begin 37 = .ok (.return_, 1) := by decide +kernel
theorem dX6_findShift_0 : decode cX6_findShift 0 = .ok (.iload_n 2, 1) := by decide +kernel
theorem dX6_findShift_1 : decode cX6_findShift 1 = .ok (.aload_n 0, 1) := by decide +kernel
theorem dX6_findShift_2 : decode cX6_findShift 2 = .ok (.getfield 15, 3) := by decide +kernel
theorem dX6_findShift_5 : decode cX6_findShift 5 = .ok (.if_icmp .ne 4, 3) := by decide +kernel
theorem dX6_findShift_8 : decode cX6_findShift 8 = .ok (.return_, 1) := by decide +kernel
theorem dX6_findShift_9 : decode cX6_findShift 9 = .ok (.aload_n 1, 1) := by decide +kernel
theorem dX6_findShift_10 : decode cX6_findShift 10 = .ok (.getfield 40, 3) := by decide +kernel
theorem dX6_findShift_13 : decode cX6_findShift 13 = .ok (.iconst 2, 1) := by decide +kernel
theorem dX6_findShift_14 : decode cX6_findShift 14 = .ok (.iaload, 1) := by decide +kernel
theorem dX6_findShift_15 : decode cX6_findShift 15 = .ok (.istore_n 3, 1) := by decide +kernel
theorem dX6_findShift_16 : decode cX6_findShift 16 = .ok (.iload_n 3, 1) := by decide +kernel
theorem dX6_findShift_17 : decode cX6_findShift 17 = .ok (.ineg, 1) := by decide +kernel
theorem dX6_findShift_18 : decode cX6_findShift 18 = .ok (.istore 4, 2) := by decide +kernel
theorem dX6_findShift_20 : decode cX6_findShift 20 = .ok (.iload 4, 2) := by decide +kernel
theorem dX6_findShift_22 : decode cX6_findShift 22 = .ok (.iload_n 3, 1) := by decide +kernel
theorem dX6_findShift_23 : decode cX6_findShift 23 = .ok (.if_icmp .gt 71, 3) := by decide +kernel
theorem dX6_findShift_26 : decode cX6_findShift 26 = .ok (.iload_n 3, 1) := by decide +kernel
theorem dX6_findShift_27 : decode cX6_findShift 27 = .ok (.ineg, 1) := by decide +kernel
theorem dX6_findShift_28 : decode cX6_findShift 28 = .ok (.istore 5, 2) := by decide +kernel
theorem dX6_findShift_30 : decode cX6_findShift 30 = .ok (.iload 5, 2) := by decide +kernel
theorem dX6_findShift_32 : decode cX6_findShift 32 = .ok (.iload_n 3, 1) := by decide +kernel
theorem dX6_findShift_33 : decode cX6_findShift 33 = .ok (.if_icmp .gt 55, 3) := by decide +kernel
theorem dX6_findShift_36 : decode cX6_findShift 36 = .ok (.aload_n 1, 1) := by decide +kernel
theorem dX6_findShift_37 : decode cX6_findShift 37 = .ok (.aload_n 0, 1) := by decide +kernel
theorem dX6_findShift_38 : decode cX6_findShift 38 = .ok (.getfield 15, 3) := by decide +kernel
theorem dX6_findShift_41 : decode cX6_findShift 41 = .ok (.iload_n 2, 1) := by decide +kernel
theorem dX6_findShift_42 : decode cX6_findShift 42 = .ok (.iload 5, 2) := by decide +kernel
theorem dX6_findShift_44 : decode cX6_findShift 44 = .ok (.iload 4, 2) := by decide +kernel
theorem dX6_findShift_46 : decode cX6_findShift 46 = .ok (.invokevirtual 45, 3) := by decide +kernel
theorem dX6_findShift_49 : decode cX6_findShift 49 = .ok (.istore 6, 2) := by decide +kernel
theorem dX6_findShift_51 : decode cX6_findShift 51 = .ok (.iload 6, 2) := by decide +kernel
theorem dX6_findShift_53 : decode cX6_findShift 53 = .ok (.iconst (-1), 1) := by decide +kernel
theorem dX6_findShift_54 : decode cX6_findShift 54 = .ok (.if_icmp .eq 28, 3) := by decide +kernel
theorem dX6_findShift_57 : decode cX6_findShift 57 = .ok (.aload_n 0, 1) := by decide +kernel
theorem dX6_findShift_58 : decode cX6_findShift 58 = .ok (.iload_n 2, 1) := by decide +kernel
theorem dX6_findShift_59 : decode cX6_findShift 59 = .ok (.iload 5, 2) := by decide +kernel
theorem dX6_findShift_61 : decode cX6_findShift 61 = .ok (.iload 4, 2) := by decide +kernel
theorem dX6_findShift_63 : decode cX6_findShift 63 = .ok (.iload 6, 2) := by decide +kernel
theorem dX6_findShift_65 : decode cX6_findShift 65 = .ok (.invokevirtual 49, 3) := by decide +kernel
theorem dX6_findShift_68 : decode cX6_findShift 68 = .ok (.ifCond .eq 14, 3) := by decide +kernel
theorem dX6_findShift_71 : decode cX6_findShift 71 = .ok (.aload_n 0, 1) := by decide +kernel
theorem dX6_findShift_72 : decode cX6_findShift 72 = .ok (.iload_n 2, 1) := by decide +kernel
theorem dX6_findShift_73 : decode cX6_findShift 73 = .ok (.iload 5, 2) := by decide +kernel
theorem dX6_findShift_75 : decode cX6_findShift 75 = .ok (.iload 4, 2) := by decide +kernel
theorem dX6_findShift_77 : decode cX6_findShift 77 = .ok (.iload 6, 2) := by decide +kernel
theorem dX6_findShift_79 : decode cX6_findShift 79 = .ok (.invokevirtual 36, 3) := by decide +kernel
theorem dX6_findShift_82 : decode cX6_findShift 82 = .ok (.iinc 5 1, 3) := by decide +kernel
theorem dX6_findShift_85 : decode cX6_findShift 85 = .ok (.goto (-55), 3) := by decide +kernel
theorem dX6_findShift_88 : decode cX6_findShift 88 = .ok (.iinc 4 1, 3) := by decide +kernel
theorem dX6_findShift_91 : decode cX6_findShift 91 = .ok (.goto (-71), 3) := by decide +kernel
theorem dX6_findShift_94 : decode cX6_findShift 94 = .ok (.return_, 1) := by decide +kernel
theorem dX6_isBetter_0 : decode cX6_isBetter 0 = .ok (.aload_n 0, 1) := by decide +kernel
theorem dX6_isBetter_1 : decode cX6_isBetter 1 = .ok (.iload_n 1, 1) := by decide +kernel
theorem dX6_isBetter_2 : decode cX6_isBetter 2 = .ok (.invokevirtual 32, 3) := by decide +kernel
theorem dX6_isBetter_5 : decode cX6_isBetter 5 = .ok (.ifCond .ne 5, 3) := by decide +kernel
theorem dX6_isBetter_8 : decode cX6_isBetter 8 = .ok (.iconst 1, 1) := by decide +kernel
theorem dX6_isBetter_9 : decode cX6_isBetter 9 = .ok (.ireturn, 1) := by decide +kernel
theorem dX6_isBetter_10 : decode cX6_isBetter 10 = .ok (.aload_n 0, 1) := by decide +kernel
theorem dX6_isBetter_11 : decode cX6_isBetter 11 = .ok (.getfield 22, 3) := by decide +kernel
theorem dX6_isBetter_14 : decode cX6_isBetter 14 = .ok (.iload_n 1, 1) := by decide +kernel
theorem dX6_isBetter_15 : decode cX6_isBetter 15 = .ok (.iaload, 1) := by decide +kernel
theorem dX6_isBetter_16 : decode cX6_isBetter 16 = .ok (.invokestatic 53, 3) := by decide +kernel
theorem dX6_isBetter_19 : decode cX6_isBetter 19 = .ok (.aload_n 0, 1) := by decide +kernel
theorem dX6_isBetter_20 : decode cX6_isBetter 20 = .ok (.getfield 26, 3) := by decide +kernel
theorem dX6_isBetter_23 : decode cX6_isBetter 23 = .ok (.iload_n 1, 1) := by decide +kernel
theorem dX6_isBetter_24 : decode cX6_isBetter 24 = .ok (.iaload, 1) := by decide +kernel
theorem dX6_isBetter_25 : decode cX6_isBetter 25 = .ok (.invokestatic 53, 3) := by decide +kernel
theorem dX6_isBetter_28 : decode cX6_isBetter 28 = .ok (.iadd, 1) := by decide +kernel
theorem dX6_isBetter_29 : decode cX6_isBetter 29 = .ok (.istore 5, 2) := by decide +kernel
theorem dX6_isBetter_31 : decode cX6_isBetter 31 = .ok (.iload 4, 2) := by decide +kernel
theorem dX6_isBetter_33 : decode cX6_isBetter 33 = .ok (.aload_n 0, 1) := by decide +kernel
theorem dX6_isBetter_34 : decode cX6_isBetter 34 = .ok (.getfield 29, 3) := by decide +kernel
theorem dX6_isBetter_37 : decode cX6_isBetter 37 = .ok (.iload_n 1, 1) := by decide +kernel
theorem dX6_isBetter_38 : decode cX6_isBetter 38 = .ok (.iaload, 1) := by decide +kernel
theorem dX6_isBetter_39 : decode cX6_isBetter 39 = .ok (.if_icmp .lt 28, 3) := by decide +kernel
theorem dX6_isBetter_42 : decode cX6_isBetter 42 = .ok (.iload 4, 2) := by decide +kernel
theorem dX6_isBetter_44 : decode cX6_isBetter 44 = .ok (.aload_n 0, 1) := by decide +kernel
theorem dX6_isBetter_45 : decode cX6_isBetter 45 = .ok (.getfield 29, 3) := by decide +kernel
theorem dX6_isBetter_48 : decode cX6_isBetter 48 = .ok (.iload_n 1, 1) := by decide +kernel
theorem dX6_isBetter_49 : decode cX6_isBetter 49 = .ok (.iaload, 1) := by decide +kernel
theorem dX6_isBetter_50 : decode cX6_isBetter 50 = .ok (.if_icmp .ne 21, 3) := by decide +kernel
theorem dX6_isBetter_53 : decode cX6_isBetter 53 = .ok (.iload_n 2, 1) := by decide +kernel
theorem dX6_isBetter_54 : decode cX6_isBetter 54 = .ok (.invokestatic 53, 3) := by decide +kernel
theorem dX6_isBetter_57 : decode cX6_isBetter 57 = .ok (.iload_n 3, 1) := by decide +kernel
theorem dX6_isBetter_58 : decode cX6_isBetter 58 = .ok (.invokestatic 53, 3) := by decide +kernel
theorem dX6_isBetter_61 : decode cX6_isBetter 61 = .ok (.iadd, 1) := by decide +kernel
theorem dX6_isBetter_62 : decode cX6_isBetter 62 = .ok (.iload 5, 2) := by decide +kernel
theorem dX6_isBetter_64 : decode cX6_isBetter 64 = .ok (.if_icmp .ge 7, 3) := by decide +kernel
theorem dX6_isBetter_67 : decode cX6_isBetter 67 = .ok (.iconst 1, 1) := by decide +kernel
theorem dX6_isBetter_68 : decode cX6_isBetter 68 = .ok (.goto 4, 3) := by decide +kernel
theorem dX6_isBetter_71 : decode cX6_isBetter 71 = .ok (.iconst 0, 1) := by decide +kernel
theorem dX6_isBetter_72 : decode cX6_isBetter 72 = .ok (.ireturn, 1) := by decide +kernel
theorem dX6_take_0 : decode cX6_take 0 = .ok (.iload_n 1, 1) := by decide +kernel
theorem dX6_take_1 : decode cX6_take 1 = .ok (.ifCond .lt 38, 3) := by decide +kernel
theorem dX6_take_4 : decode cX6_take 4 = .ok (.iload_n 1, 1) := by decide +kernel
theorem dX6_take_5 : decode cX6_take 5 = .ok (.bipush 6, 2) := by decide +kernel
theorem dX6_take_7 : decode cX6_take 7 = .ok (.if_icmp .ge 32, 3) := by decide +kernel
theorem dX6_take_10 : decode cX6_take 10 = .ok (.aload_n 0, 1) := by decide +kernel
theorem dX6_take_11 : decode cX6_take 11 = .ok (.getfield 18, 3) := by decide +kernel
theorem dX6_take_14 : decode cX6_take 14 = .ok (.iload_n 1, 1) := by decide +kernel
theorem dX6_take_15 : decode cX6_take 15 = .ok (.iconst 1, 1) := by decide +kernel
theorem dX6_take_16 : decode cX6_take 16 = .ok (.bastore, 1) := by decide +kernel
theorem dX6_take_17 : decode cX6_take 17 = .ok (.aload_n 0, 1) := by decide +kernel
theorem dX6_take_18 : decode cX6_take 18 = .ok (.getfield 22, 3) := by decide +kernel
theorem dX6_take_21 : decode cX6_take 21 = .ok (.iload_n 1, 1) := by decide +kernel
theorem dX6_take_22 : decode cX6_take 22 = .ok (.iload_n 2, 1) := by decide +kernel
theorem dX6_take_23 : decode cX6_take 23 = .ok (.iastore, 1) := by decide +kernel
theorem dX6_take_24 : decode cX6_take 24 = .ok (.aload_n 0, 1) := by decide +kernel
theorem dX6_take_25 : decode cX6_take 25 = .ok (.getfield 26, 3) := by decide +kernel
theorem dX6_take_28 : decode cX6_take 28 = .ok (.iload_n 1, 1) := by decide +kernel
theorem dX6_take_29 : decode cX6_take 29 = .ok (.iload_n 3, 1) := by decide +kernel
theorem dX6_take_30 : decode cX6_take 30 = .ok (.iastore, 1) := by decide +kernel
theorem dX6_take_31 : decode cX6_take 31 = .ok (.aload_n 0, 1) := by decide +kernel
theorem dX6_take_32 : decode cX6_take 32 = .ok (.getfield 29, 3) := by decide +kernel
theorem dX6_take_35 : decode cX6_take 35 = .ok (.iload_n 1, 1) := by decide +kernel
theorem dX6_take_36 : decode cX6_take 36 = .ok (.iload 4, 2) := by decide +kernel
theorem dX6_take_38 : decode cX6_take 38 = .ok (.iastore, 1) := by decide +kernel
theorem dX6_take_39 : decode cX6_take 39 = .ok (.return_, 1) := by decide +kernel
theorem dX7_init_0 : decode cX7_init 0 = .ok (.aload_n 0, 1) := by decide +kernel
theorem dX7_init_1 : decode cX7_init 1 = .ok (.invokespecial 3, 3) := by decide +kernel
theorem dX7_init_4 : decode cX7_init 4 = .ok (.aload_n 0, 1) := by decide +kernel
theorem dX7_init_5 : decode cX7_init 5 = .ok (.bipush 6, 2) := by decide +kernel
theorem dX7_init_7 : decode cX7_init 7 = .ok (.newarray .int, 2) := by decide +kernel
theorem dX7_init_9 : decode cX7_init 9 = .ok (.putfield 9, 3) := by decide +kernel
theorem dX7_init_12 : decode cX7_init 12 = .ok (.aload_n 0, 1) := by decide +kernel
theorem dX7_init_13 : decode cX7_init 13 = .ok (.bipush 6, 2) := by decide +kernel
theorem dX7_init_15 : decode cX7_init 15 = .ok (.newarray .int, 2) := by decide +kernel
theorem dX7_init_17 : decode cX7_init 17 = .ok (.putfield 15, 3) := by decide +kernel
theorem dX7_init_20 : decode cX7_init 20 = .ok (.aload_n 0, 1) := by decide +kernel
theorem dX7_init_21 : decode cX7_init 21 = .ok (.iconst 0, 1) := by decide +kernel
theorem dX7_init_22 : decode cX7_init 22 = .ok (.putfield 18, 3) := by decide +kernel
theorem dX7_init_25 : decode cX7_init 25 = .ok (.aload_n 0, 1) := by decide +kernel
theorem dX7_init_26 : decode cX7_init 26 = .ok (.iload_n 1, 1) := by decide +kernel
theorem dX7_init_27 : decode cX7_init 27 = .ok (.bipush 6, 2) := by decide +kernel
theorem dX7_init_29 : decode cX7_init 29 = .ok (.invokestatic 22, 3) := by decide +kernel
theorem dX7_init_32 : decode cX7_init 32 = .ok (.putfield 28, 3) := by decide +kernel
theorem dX7_init_35 : decode cX7_init 35 = .ok (.return_, 1) := by decide +kernel
theorem dX7_has_0 : decode cX7_has 0 = .ok (.iload_n 1, 1) := by decide +kernel
theorem dX7_has_1 : decode cX7_has 1 = .ok (.ifCond .lt 15, 3) := by decide +kernel
theorem dX7_has_4 : decode cX7_has 4 = .ok (.iload_n 1, 1) := by decide +kernel
theorem dX7_has_5 : decode cX7_has 5 = .ok (.aload_n 0, 1) := by decide +kernel
theorem dX7_has_6 : decode cX7_has 6 = .ok (.getfield 18, 3) := by decide +kernel
theorem dX7_has_9 : decode cX7_has 9 = .ok (.if_icmp .ge 7, 3) := by decide +kernel
theorem dX7_has_12 : decode cX7_has 12 = .ok (.iconst 1, 1) := by decide +kernel
theorem dX7_has_13 : decode cX7_has 13 = .ok (.goto 4, 3) := by decide +kernel
theorem dX7_has_16 : decode cX7_has 16 = .ok (.iconst 0, 1) := by decide +kernel
theorem dX7_has_17 : decode cX7_has 17 = .ok (.ireturn, 1) := by decide +kernel
theorem dX7_isFull_0 : decode cX7_isFull 0 = .ok (.aload_n 0, 1) := by decide +kernel
theorem dX7_isFull_1 : decode cX7_isFull 1 = .ok (.getfield 18, 3) := by decide +kernel
theorem dX7_isFull_4 : decode cX7_isFull 4 = .ok (.aload_n 0, 1) := by decide +kernel
theorem dX7_isFull_5 : decode cX7_isFull 5 = .ok (.getfield 28, 3) := by decide +kernel
theorem dX7_isFull_8 : decode cX7_isFull 8 = .ok (.if_icmp .lt 7, 3) := by decide +kernel
theorem dX7_isFull_11 : decode cX7_isFull 11 = .ok (.iconst 1, 1) := by decide +kernel
theorem dX7_isFull_12 : decode cX7_isFull 12 = .ok (.goto 4, 3) := by decide +kernel
theorem dX7_isFull_15 : decode cX7_isFull 15 = .ok (.iconst 0, 1) := by decide +kernel
theorem dX7_isFull_16 : decode cX7_isFull 16 = .ok (.ireturn, 1) := by decide +kernel
theorem dX7_add_0 : decode cX7_add 0 = .ok (.aload_n 0, 1) := by decide +kernel
theorem dX7_add_1 : decode cX7_add 1 = .ok (.invokevirtual 31, 3) := by decide +kernel
theorem dX7_add_4 : decode cX7_add 4 = .ok (.ifCond .ne 25, 3) := by decide +kernel
theorem dX7_add_7 : decode cX7_add 7 = .ok (.aload_n 0, 1) := by decide +kernel
theorem dX7_add_8 : decode cX7_add 8 = .ok (.dup, 1) := by decide +kernel
theorem dX7_add_9 : decode cX7_add 9 = .ok (.getfield 18, 3) := by decide +kernel
theorem dX7_add_12 : decode cX7_add 12 = .ok (.iconst 1, 1) := by decide +kernel
theorem dX7_add_13 : decode cX7_add 13 = .ok (.iadd, 1) := by decide +kernel
theorem dX7_add_14 : decode cX7_add 14 = .ok (.putfield 18, 3) := by decide +kernel
theorem dX7_add_17 : decode cX7_add 17 = .ok (.aload_n 0, 1) := by decide +kernel
theorem dX7_add_18 : decode cX7_add 18 = .ok (.aload_n 0, 1) := by decide +kernel
theorem dX7_add_19 : decode cX7_add 19 = .ok (.getfield 18, 3) := by decide +kernel
theorem dX7_add_22 : decode cX7_add 22 = .ok (.iconst 1, 1) := by decide +kernel
theorem dX7_add_23 : decode cX7_add 23 = .ok (.isub, 1) := by decide +kernel
theorem dX7_add_24 : decode cX7_add 24 = .ok (.iload_n 1, 1) := by decide +kernel
theorem dX7_add_25 : decode cX7_add 25 = .ok (.iload_n 2, 1) := by decide +kernel
theorem dX7_add_26 : decode cX7_add 26 = .ok (.invokevirtual 35, 3) := by decide +kernel
theorem dX7_add_29 : decode cX7_add 29 = .ok (.return_, 1) := by decide +kernel
theorem dX7_place_0 : decode cX7_place 0 = .ok (.aload_n 0, 1) := by decide +kernel
theorem dX7_place_1 : decode cX7_place 1 = .ok (.iload_n 1, 1) := by decide +kernel
theorem dX7_place_2 : decode cX7_place 2 = .ok (.invokevirtual 39, 3) := by decide +kernel
theorem dX7_place_5 : decode cX7_place 5 = .ok (.ifCond .eq 17, 3) := by decide +kernel
theorem dX7_place_8 : decode cX7_place 8 = .ok (.aload_n 0, 1) := by decide +kernel
theorem dX7_place_9 : decode cX7_place 9 = .ok (.getfield 9, 3) := by decide +kernel
theorem dX7_place_12 : decode cX7_place 12 = .ok (.iload_n 1, 1) := by decide +kernel
theorem dX7_place_13 : decode cX7_place 13 = .ok (.iload_n 2, 1) := by decide +kernel
theorem dX7_place_14 : decode cX7_place 14 = .ok (.iastore, 1) := by decide +kernel
theorem dX7_place_15 : decode cX7_place 15 = .ok (.aload_n 0, 1) := by decide +kernel
theorem dX7_place_16 : decode cX7_place 16 = .ok (.getfield 15, 3) := by decide +kernel
theorem dX7_place_19 : decode cX7_place 19 = .ok (.iload_n 1, 1) := by decide +kernel
theorem dX7_place_20 : decode cX7_place 20 = .ok (.iload_n 3, 1) := by decide +kernel
theorem dX7_place_21 : decode cX7_place 21 = .ok (.iastore, 1) := by decide +kernel
theorem dX7_place_22 : decode cX7_place 22 = .ok (.return_, 1) := by decide +kernel
theorem dX8_init_0 : decode cX8_init 0 = .ok (.aload_n 0, 1) := by decide +kernel
theorem dX8_init_1 : decode cX8_init 1 = .ok (.invokespecial 3, 3) := by decide +kernel
theorem dX8_init_4 : decode cX8_init 4 = .ok (.aload_n 0, 1) := by decide +kernel
theorem dX8_init_5 : decode cX8_init 5 = .ok (.bipush 12, 2) := by decide +kernel
theorem dX8_init_7 : decode cX8_init 7 = .ok (.putfield 9, 3) := by decide +kernel
theorem dX8_init_10 : decode cX8_init 10 = .ok (.aload_n 0, 1) := by decide +kernel
theorem dX8_init_11 : decode cX8_init 11 = .ok (.bipush 8, 2) := by decide +kernel
theorem dX8_init_13 : decode cX8_init 13 = .ok (.putfield 15, 3) := by decide +kernel
theorem dX8_init_16 : decode cX8_init 16 = .ok (.aload_n 0, 1) := by decide +kernel
theorem dX8_init_17 : decode cX8_init 17 = .ok (.iconst 0, 1) := by decide +kernel
theorem dX8_init_18 : decode cX8_init 18 = .ok (.putfield 18, 3) := by decide +kernel
theorem dX8_init_21 : decode cX8_init 21 = .ok (.aload_n 0, 1) := by decide +kernel
theorem dX8_init_22 : decode cX8_init 22 = .ok (.iconst 0, 1) := by decide +kernel
theorem dX8_init_23 : decode cX8_init 23 = .ok (.putfield 21, 3) := by decide +kernel
theorem dX8_init_26 : decode cX8_init 26 = .ok (.aload_n 0, 1) := by decide +kernel
theorem dX8_init_27 : decode cX8_init 27 = .ok (.bipush 8, 2) := by decide +kernel
theorem dX8_init_29 : decode cX8_init 29 = .ok (.newarray .int, 2) := by decide +kernel
theorem dX8_init_31 : decode cX8_init 31 = .ok (.putfield 24, 3) := by decide +kernel
theorem dX8_init_34 : decode cX8_init 34 = .ok (.aload_n 0, 1) := by decide +kernel
theorem dX8_init_35 : decode cX8_init 35 = .ok (.bipush 6, 2) := by decide +kernel
theorem dX8_init_37 : decode cX8_init 37 = .ok (.anewarray 28, 3) := by decide +kernel
theorem dX8_init_40 : decode cX8_init 40 = .ok (.putfield 30, 3) := by decide +kernel
theorem dX8_init_43 : decode cX8_init 43 = .ok (.aload_n 0, 1) := by decide +kernel
theorem dX8_init_44 : decode cX8_init 44 = .ok (.iconst 3, 1) := by decide +kernel
theorem dX8_init_45 : decode cX8_init 45 = .ok (.anewarray 34, 3) := by decide +kernel
theorem dX8_init_48 : decode cX8_init 48 = .ok (.putfield 36, 3) := by decide +kernel
theorem dX8_init_51 : decode cX8_init 51 = .ok (.aload_n 0, 1) := by decide +kernel
theorem dX8_init_52 : decode cX8_init 52 = .ok (.new 40, 3) := by decide +kernel
theorem dX8_init_55 : decode cX8_init 55 = .ok (.dup, 1) := by decide +kernel
theorem dX8_init_56 : decode cX8_init 56 = .ok (.iconst 4, 1) := by decide +kernel
theorem dX8_init_57 : decode cX8_init 57 = .ok (.invokespecial 42, 3) := by decide +kernel
theorem dX8_init_60 : decode cX8_init 60 = .ok (.putfield 45, 3) := by decide +kernel
theorem dX8_init_63 : decode cX8_init 63 = .ok (.aload_n 0, 1) := by decide +kernel
theorem dX8_init_64 : decode cX8_init 64 = .ok (.new 40, 3) := by decide +kernel
theorem dX8_init_67 : decode cX8_init 67 = .ok (.dup, 1) := by decide +kernel
theorem dX8_init_68 : decode cX8_init 68 = .ok (.bipush 6, 2) := by decide +kernel
theorem dX8_init_70 : decode cX8_init 70 = .ok (.invokespecial 42, 3) := by decide +kernel
theorem dX8_init_73 : decode cX8_init 73 = .ok (.putfield 49, 3) := by decide +kernel
theorem dX8_init_76 : decode cX8_init 76 = .ok (.iconst 0, 1) := by decide +kernel
theorem dX8_init_77 : decode cX8_init 77 = .ok (.istore_n 1, 1) := by decide +kernel
theorem dX8_init_78 : decode cX8_init 78 = .ok (.iload_n 1, 1) := by decide +kernel
theorem dX8_init_79 : decode cX8_init 79 = .ok (.bipush 6, 2) := by decide +kernel
theorem dX8_init_81 : decode cX8_init 81 = .ok (.if_icmp .ge 22, 3) := by decide +kernel
theorem dX8_init_84 : decode cX8_init 84 = .ok (.aload_n 0, 1) := by decide +kernel
theorem dX8_init_85 : decode cX8_init 85 = .ok (.getfield 30, 3) := by decide +kernel
theorem dX8_init_88 : decode cX8_init 88 = .ok (.iload_n 1, 1) := by decide +kernel
theorem dX8_init_89 : decode cX8_init 89 = .ok (.new 28, 3) := by decide +kernel
theorem dX8_init_92 : decode cX8_init 92 = .ok (.dup, 1) := by decide +kernel
theorem dX8_init_93 : decode cX8_init 93 = .ok (.invokespecial 52, 3) := by decide +kernel
theorem dX8_init_96 : decode cX8_init 96 = .ok (.aastore, 1) := by decide +kernel
theorem dX8_init_97 : decode cX8_init 97 = .ok (.iinc 1 1, 3) := by decide +kernel
theorem dX8_init_100 : decode cX8_init 100 = .ok (.goto (-22), 3) := by decide +kernel
theorem dX8_init_103 : decode cX8_init 103 = .ok (.iconst 0, 1) := by decide +kernel
theorem dX8_init_104 : decode cX8_init 104 = .ok (.istore_n 1, 1) := by decide +kernel
theorem dX8_init_105 : decode cX8_init 105 = .ok (.iload_n 1, 1) := by decide +kernel
theorem dX8_init_106 : decode cX8_init 106 = .ok (.iconst 3, 1) := by decide +kernel
theorem dX8_init_107 : decode cX8_init 107 = .ok (.if_icmp .ge 22, 3) := by decide +kernel
theorem dX8_init_110 : decode cX8_init 110 = .ok (.aload_n 0, 1) := by decide +kernel
theorem dX8_init_111 : decode cX8_init 111 = .ok (.getfield 36, 3) := by decide +kernel
theorem dX8_init_114 : decode cX8_init 114 = .ok (.iload_n 1, 1) := by decide +kernel
theorem dX8_init_115 : decode cX8_init 115 = .ok (.new 34, 3) := by decide +kernel
theorem dX8_init_118 : decode cX8_init 118 = .ok (.dup, 1) := by decide +kernel
theorem dX8_init_119 : decode cX8_init 119 = .ok (.invokespecial 53, 3) := by decide +kernel
theorem dX8_init_122 : decode cX8_init 122 = .ok (.aastore, 1) := by decide +kernel
theorem dX8_init_123 : decode cX8_init 123 = .ok (.iinc 1 1, 3) := by decide +kernel
theorem dX8_init_126 : decode cX8_init 126 = .ok (.goto (-21), 3) := by decide +kernel
theorem dX8_init_129 : decode cX8_init 129 = .ok (.iconst 0, 1) := by decide +kernel
theorem dX8_init_130 : decode cX8_init 130 = .ok (.istore_n 1, 1) := by decide +kernel
theorem dX8_init_131 : decode cX8_init 131 = .ok (.iload_n 1, 1) := by decide +kernel
theorem dX8_init_132 : decode cX8_init 132 = .ok (.bipush 8, 2) := by decide +kernel
theorem dX8_init_134 : decode cX8_init 134 = .ok (.if_icmp .ge 20, 3) := by decide +kernel
theorem dX8_init_137 : decode cX8_init 137 = .ok (.aload_n 0, 1) := by decide +kernel
theorem dX8_init_138 : decode cX8_init 138 = .ok (.getfield 24, 3) := by decide +kernel
theorem dX8_init_141 : decode cX8_init 141 = .ok (.iload_n 1, 1) := by decide +kernel
theorem dX8_init_142 : decode cX8_init 142 = .ok (.getstatic 54, 3) := by decide +kernel
theorem dX8_init_145 : decode cX8_init 145 = .ok (.iload_n 1, 1) := by decide +kernel
theorem dX8_init_146 : decode cX8_init 146 = .ok (.iaload, 1) := by decide +kernel
theorem dX8_init_147 : decode cX8_init 147 = .ok (.iastore, 1) := by decide +kernel
theorem dX8_init_148 : decode cX8_init 148 = .ok (.iinc 1 1, 3) := by decide +kernel
theorem dX8_init_151 : decode cX8_init 151 = .ok (.goto (-20), 3) := by decide +kernel
theorem dX8_init_154 : decode cX8_init 154 = .ok (.return_, 1) := by decide +kernel
theorem dX8_reset_0 : decode cX8_reset 0 = .ok (.aload_n 0, 1) := by decide +kernel
theorem dX8_reset_1 : decode cX8_reset 1 = .ok (.bipush 12, 2) := by decide +kernel
theorem dX8_reset_3 : decode cX8_reset 3 = .ok (.putfield 9, 3) := by decide +kernel
theorem dX8_reset_6 : decode cX8_reset 6 = .ok (.aload_n 0, 1) := by decide +kernel
theorem dX8_reset_7 : decode cX8_reset 7 = .ok (.bipush 8, 2) := by decide +kernel
theorem dX8_reset_9 : decode cX8_reset 9 = .ok (.putfield 15, 3) := by decide +kernel
theorem dX8_reset_12 : decode cX8_reset 12 = .ok (.aload_n 0, 1) := by decide +kernel
theorem dX8_reset_13 : decode cX8_reset 13 = .ok (.iconst 0, 1) := by decide +kernel
theorem dX8_reset_14 : decode cX8_reset 14 = .ok (.putfield 18, 3) := by decide +kernel
theorem dX8_reset_17 : decode cX8_reset 17 = .ok (.aload_n 0, 1) := by decide +kernel
theorem dX8_reset_18 : decode cX8_reset 18 = .ok (.iconst 0, 1) := by decide +kernel
theorem dX8_reset_19 : decode cX8_reset 19 = .ok (.putfield 21, 3) := by decide +kernel
theorem dX8_reset_22 : decode cX8_reset 22 = .ok (.aload_n 0, 1) := by decide +kernel
theorem dX8_reset_23 : decode cX8_reset 23 = .ok (.getfield 45, 3) := by decide +kernel
theorem dX8_reset_26 : decode cX8_reset 26 = .ok (.iconst 0, 1) := by decide +kernel
theorem dX8_reset_27 : decode cX8_reset 27 = .ok (.putfield 57, 3) := by decide +kernel
theorem dX8_reset_30 : decode cX8_reset 30 = .ok (.aload_n 0, 1) := by decide +kernel
theorem dX8_reset_31 : decode cX8_reset 31 = .ok (.getfield 49, 3) := by decide +kernel
theorem dX8_reset_34 : decode cX8_reset 34 = .ok (.iconst 0, 1) := by decide +kernel
theorem dX8_reset_35 : decode cX8_reset 35 = .ok (.putfield 57, 3) := by decide +kernel
theorem dX8_reset_38 : decode cX8_reset 38 = .ok (.iconst 0, 1) := by decide +kernel
theorem dX8_reset_39 : decode cX8_reset 39 = .ok (.istore_n 1, 1) := by decide +kernel
theorem dX8_reset_40 : decode cX8_reset 40 = .ok (.iload_n 1, 1) := by decide +kernel
theorem dX8_reset_41 : decode cX8_reset 41 = .ok (.bipush 8, 2) := by decide +kernel
theorem dX8_reset_43 : decode cX8_reset 43 = .ok (.if_icmp .ge 20, 3) := by decide +kernel
theorem dX8_reset_46 : decode cX8_reset 46 = .ok (.aload_n 0, 1) := by decide +kernel
theorem dX8_reset_47 : decode cX8_reset 47 = .ok (.getfield 24, 3) := by decide +kernel
theorem dX8_reset_50 : decode cX8_reset 50 = .ok (.iload_n 1, 1) := by decide +kernel
theorem dX8_reset_51 : decode cX8_reset 51 = .ok (.getstatic 54, 3) := by decide +kernel
theorem dX8_reset_54 : decode cX8_reset 54 = .ok (.iload_n 1, 1) := by decide +kernel
theorem dX8_reset_55 : decode cX8_reset 55 = .ok (.iaload, 1) := by decide +kernel
theorem dX8_reset_56 : decode cX8_reset 56 = .ok (.iastore, 1) := by decide +kernel
theorem dX8_reset_57 : decode cX8_reset 57 = .ok (.iinc 1 1, 3) := by decide +kernel
theorem dX8_reset_60 : decode cX8_reset 60 = .ok (.goto (-20), 3) := by decide +kernel
theorem dX8_reset_63 : decode cX8_reset 63 = .ok (.return_, 1) := by decide +kernel
theorem dX8_hasFrame_0 : decode cX8_hasFrame 0 = .ok (.iload_n 1, 1) := by decide +kernel
theorem dX8_hasFrame_1 : decode cX8_hasFrame 1 = .ok (.ifCond .lt 15, 3) := by decide +kernel
theorem dX8_hasFrame_4 : decode cX8_hasFrame 4 = .ok (.iload_n 1, 1) := by decide +kernel
theorem dX8_hasFrame_5 : decode cX8_hasFrame 5 = .ok (.aload_n 0, 1) := by decide +kernel
theorem dX8_hasFrame_6 : decode cX8_hasFrame 6 = .ok (.getfield 18, 3) := by decide +kernel
theorem dX8_hasFrame_9 : decode cX8_hasFrame 9 = .ok (.if_icmp .ge 7, 3) := by decide +kernel
theorem dX8_hasFrame_12 : decode cX8_hasFrame 12 = .ok (.iconst 1, 1) := by decide +kernel
theorem dX8_hasFrame_13 : decode cX8_hasFrame 13 = .ok (.goto 4, 3) := by decide +kernel
theorem dX8_hasFrame_16 : decode cX8_hasFrame 16 = .ok (.iconst 0, 1) := by decide +kernel
theorem dX8_hasFrame_17 : decode cX8_hasFrame 17 = .ok (.ireturn, 1) := by decide +kernel
theorem dX8_hasPixel_0 : decode cX8_hasPixel 0 = .ok (.iload_n 1, 1) := by decide +kernel
theorem dX8_hasPixel_1 : decode cX8_hasPixel 1 = .ok (.ifCond .lt 27, 3) := by decide +kernel
theorem dX8_hasPixel_4 : decode cX8_hasPixel 4 = .ok (.iload_n 1, 1) := by decide +kernel
theorem dX8_hasPixel_5 : decode cX8_hasPixel 5 = .ok (.aload_n 0, 1) := by decide +kernel
theorem dX8_hasPixel_6 : decode cX8_hasPixel 6 = .ok (.getfield 9, 3) := by decide +kernel
theorem dX8_hasPixel_9 : decode cX8_hasPixel 9 = .ok (.if_icmp .ge 19, 3) := by decide +kernel
theorem dX8_hasPixel_12 : decode cX8_hasPixel 12 = .ok (.iload_n 2, 1) := by decide +kernel
theorem dX8_hasPixel_13 : decode cX8_hasPixel 13 = .ok (.ifCond .lt 15, 3) := by decide +kernel
theorem dX8_hasPixel_16 : decode cX8_hasPixel 16 = .ok (.iload_n 2, 1) := by decide +kernel
theorem dX8_hasPixel_17 : decode cX8_hasPixel 17 = .ok (.aload_n 0, 1) := by decide +kernel
theorem dX8_hasPixel_18 : decode cX8_hasPixel 18 = .ok (.getfield 15, 3) := by decide +kernel
theorem dX8_hasPixel_21 : decode cX8_hasPixel 21 = .ok (.if_icmp .ge 7, 3) := by decide +kernel
theorem dX8_hasPixel_24 : decode cX8_hasPixel 24 = .ok (.iconst 1, 1) := by decide +kernel
theorem dX8_hasPixel_25 : decode cX8_hasPixel 25 = .ok (.goto 4, 3) := by decide +kernel
theorem dX8_hasPixel_28 : decode cX8_hasPixel 28 = .ok (.iconst 0, 1) := by decide +kernel
theorem dX8_hasPixel_29 : decode cX8_hasPixel 29 = .ok (.ireturn, 1) := by decide +kernel
theorem dX8_hasStake_0 : decode cX8_hasStake 0 = .ok (.iload_n 1, 1) := by decide +kernel
theorem dX8_hasStake_1 : decode cX8_hasStake 1 = .ok (.ifCond .lt 15, 3) := by decide +kernel
theorem dX8_hasStake_4 : decode cX8_hasStake 4 = .ok (.iload_n 1, 1) := by decide +kernel
theorem dX8_hasStake_5 : decode cX8_hasStake 5 = .ok (.aload_n 0, 1) := by decide +kernel
theorem dX8_hasStake_6 : decode cX8_hasStake 6 = .ok (.getfield 21, 3) := by decide +kernel
theorem dX8_hasStake_9 : decode cX8_hasStake 9 = .ok (.if_icmp .ge 7, 3) := by decide +kernel
theorem dX8_hasStake_12 : decode cX8_hasStake 12 = .ok (.iconst 1, 1) := by decide +kernel
theorem dX8_hasStake_13 : decode cX8_hasStake 13 = .ok (.goto 4, 3) := by decide +kernel
theorem dX8_hasStake_16 : decode cX8_hasStake 16 = .ok (.iconst 0, 1) := by decide +kernel
theorem dX8_hasStake_17 : decode cX8_hasStake 17 = .ok (.ireturn, 1) := by decide +kernel
theorem dX8_dayOf_0 : decode cX8_dayOf 0 = .ok (.aload_n 0, 1) := by decide +kernel
theorem dX8_dayOf_1 : decode cX8_dayOf 1 = .ok (.iload_n 1, 1) := by decide +kernel
theorem dX8_dayOf_2 : decode cX8_dayOf 2 = .ok (.invokevirtual 60, 3) := by decide +kernel
theorem dX8_dayOf_5 : decode cX8_dayOf 5 = .ok (.ifCond .eq 15, 3) := by decide +kernel
theorem dX8_dayOf_8 : decode cX8_dayOf 8 = .ok (.aload_n 0, 1) := by decide +kernel
theorem dX8_dayOf_9 : decode cX8_dayOf 9 = .ok (.getfield 30, 3) := by decide +kernel
theorem dX8_dayOf_12 : decode cX8_dayOf 12 = .ok (.iload_n 1, 1) := by decide +kernel
theorem dX8_dayOf_13 : decode cX8_dayOf 13 = .ok (.aaload, 1) := by decide +kernel
theorem dX8_dayOf_14 : decode cX8_dayOf 14 = .ok (.getfield 64, 3) := by decide +kernel
theorem dX8_dayOf_17 : decode cX8_dayOf 17 = .ok (.goto 4, 3) := by decide +kernel
theorem dX8_dayOf_20 : decode cX8_dayOf 20 = .ok (.iconst (-1), 1) := by decide +kernel
theorem dX8_dayOf_21 : decode cX8_dayOf 21 = .ok (.ireturn, 1) := by decide +kernel
theorem dX8_brightnessAt_0 : decode cX8_brightnessAt 0 = .ok (.aload_n 0, 1) := by decide +kernel
theorem dX8_brightnessAt_1 : decode cX8_brightnessAt 1 = .ok (.iload_n 1, 1) := by decide +kernel
theorem dX8_brightnessAt_2 : decode cX8_brightnessAt 2 = .ok (.invokevirtual 60, 3) := by decide +kernel
theorem dX8_brightnessAt_5 : decode cX8_brightnessAt 5 = .ok (.ifCond .eq 31, 3) := by decide +kernel
theorem dX8_brightnessAt_8 : decode cX8_brightnessAt 8 = .ok (.aload_n 0, 1) := by decide +kernel
theorem dX8_brightnessAt_9 : decode cX8_brightnessAt 9 = .ok (.iload_n 2, 1) := by decide +kernel
theorem dX8_brightnessAt_10 : decode cX8_brightnessAt 10 = .ok (.iload_n 3, 1) := by decide +kernel
theorem dX8_brightnessAt_11 : decode cX8_brightnessAt 11 = .ok (.invokevirtual 67, 3) := by decide +kernel
theorem dX8_brightnessAt_14 : decode cX8_brightnessAt 14 = .ok (.ifCond .eq 22, 3) := by decide +kernel
theorem dX8_brightnessAt_17 : decode cX8_brightnessAt 17 = .ok (.aload_n 0, 1) := by decide +kernel
theorem dX8_brightnessAt_18 : decode cX8_brightnessAt 18 = .ok (.getfield 30, 3) := by decide +kernel
theorem dX8_brightnessAt_21 : decode cX8_brightnessAt 21 = .ok (.iload_n 1, 1) := by decide +kernel
theorem dX8_brightnessAt_22 : decode cX8_brightnessAt 22 = .ok (.aaload, 1) := by decide +kernel
theorem dX8_brightnessAt_23 : decode cX8_brightnessAt 23 = .ok (.getfield 71, 3) := by decide +kernel
theorem dX8_brightnessAt_26 : decode cX8_brightnessAt 26 = .ok (.bipush 12, 2) := by decide +kernel
theorem dX8_brightnessAt_28 : decode cX8_brightnessAt 28 = .ok (.iload_n 3, 1) := by decide +kernel
theorem dX8_brightnessAt_29 : decode cX8_brightnessAt 29 = .ok (.imul, 1) := by decide +kernel
theorem dX8_brightnessAt_30 : decode cX8_brightnessAt 30 = .ok (.iload_n 2, 1) := by decide +kernel
theorem dX8_brightnessAt_31 : decode cX8_brightnessAt 31 = .ok (.iadd, 1) := by decide +kernel
theorem dX8_brightnessAt_32 : decode cX8_brightnessAt 32 = .ok (.iaload, 1) := by decide +kernel
theorem dX8_brightnessAt_33 : decode cX8_brightnessAt 33 = .ok (.goto 4, 3) := by decide +kernel
theorem dX8_brightnessAt_36 : decode cX8_brightnessAt 36 = .ok (.iconst (-1), 1) := by decide +kernel
theorem dX8_brightnessAt_37 : decode cX8_brightnessAt 37 = .ok (.ireturn, 1) := by decide +kernel
theorem dX8_paint_0 : decode cX8_paint 0 = .ok (.aload_n 0, 1) := by decide +kernel
theorem dX8_paint_1 : decode cX8_paint 1 = .ok (.iload_n 1, 1) := by decide +kernel
theorem dX8_paint_2 : decode cX8_paint 2 = .ok (.invokevirtual 60, 3) := by decide +kernel
theorem dX8_paint_5 : decode cX8_paint 5 = .ok (.ifCond .eq 30, 3) := by decide +kernel
theorem dX8_paint_8 : decode cX8_paint 8 = .ok (.aload_n 0, 1) := by decide +kernel
theorem dX8_paint_9 : decode cX8_paint 9 = .ok (.iload_n 2, 1) := by decide +kernel
theorem dX8_paint_10 : decode cX8_paint 10 = .ok (.iload_n 3, 1) := by decide +kernel
theorem dX8_paint_11 : decode cX8_paint 11 = .ok (.invokevirtual 67, 3) := by decide +kernel
theorem dX8_paint_14 : decode cX8_paint 14 = .ok (.ifCond .eq 21, 3) := by decide +kernel
theorem dX8_paint_17 : decode cX8_paint 17 = .ok (.aload_n 0, 1) := by decide +kernel
theorem dX8_paint_18 : decode cX8_paint 18 = .ok (.getfield 30, 3) := by decide +kernel
theorem dX8_paint_21 : decode cX8_paint 21 = .ok (.iload_n 1, 1) := by decide +kernel
theorem dX8_paint_22 : decode cX8_paint 22 = .ok (.aaload, 1) := by decide +kernel
theorem dX8_paint_23 : decode cX8_paint 23 = .ok (.getfield 71, 3) := by decide +kernel
theorem dX8_paint_26 : decode cX8_paint 26 = .ok (.bipush 12, 2) := by decide +kernel
theorem dX8_paint_28 : decode cX8_paint 28 = .ok (.iload_n 3, 1) := by decide +kernel
theorem dX8_paint_29 : decode cX8_paint 29 = .ok (.imul, 1) := by decide +kernel
theorem dX8_paint_30 : decode cX8_paint 30 = .ok (.iload_n 2, 1) := by decide +kernel
theorem dX8_paint_31 : decode cX8_paint 31 = .ok (.iadd, 1) := by decide +kernel
theorem dX8_paint_32 : decode cX8_paint 32 = .ok (.iload 4, 2) := by decide +kernel
theorem dX8_paint_34 : decode cX8_paint 34 = .ok (.iastore, 1) := by decide +kernel
theorem dX8_paint_35 : decode cX8_paint 35 = .ok (.return_, 1) := by decide +kernel
theorem dX8_addFrame_0 : decode cX8_addFrame 0 = .ok (.aload_n 0, 1) := by decide +kernel
theorem dX8_addFrame_1 : decode cX8_addFrame 1 = .ok (.getfield 18, 3) := by decide +kernel
theorem dX8_addFrame_4 : decode cX8_addFrame 4 = .ok (.bipush 6, 2) := by decide +kernel
theorem dX8_addFrame_6 : decode cX8_addFrame 6 = .ok (.if_icmp .lt 5, 3) := by decide +kernel
theorem dX8_addFrame_9 : decode cX8_addFrame 9 = .ok (.iconst (-1), 1) := by decide +kernel
theorem dX8_addFrame_10 : decode cX8_addFrame 10 = .ok (.ireturn, 1) := by decide +kernel
theorem dX8_addFrame_11 : decode cX8_addFrame 11 = .ok (.aload_n 0, 1) := by decide +kernel
theorem dX8_addFrame_12 : decode cX8_addFrame 12 = .ok (.getfield 30, 3) := by decide +kernel
theorem dX8_addFrame_15 : decode cX8_addFrame 15 = .ok (.aload_n 0, 1) := by decide +kernel
theorem dX8_addFrame_16 : decode cX8_addFrame 16 = .ok (.getfield 18, 3) := by decide +kernel
theorem dX8_addFrame_19 : decode cX8_addFrame 19 = .ok (.aaload, 1) := by decide +kernel
theorem dX8_addFrame_20 : decode cX8_addFrame 20 = .ok (.iload_n 1, 1) := by decide +kernel
theorem dX8_addFrame_21 : decode cX8_addFrame 21 = .ok (.putfield 64, 3) := by decide +kernel
theorem dX8_addFrame_24 : decode cX8_addFrame 24 = .ok (.aload_n 0, 1) := by decide +kernel
theorem dX8_addFrame_25 : decode cX8_addFrame 25 = .ok (.dup, 1) := by decide +kernel
theorem dX8_addFrame_26 : decode cX8_addFrame 26 = .ok (.getfield 18, 3) := by decide +kernel
theorem dX8_addFrame_29 : decode cX8_addFrame 29 = .ok (.iconst 1, 1) := by decide +kernel
theorem dX8_addFrame_30 : decode cX8_addFrame 30 = .ok (.iadd, 1) := by decide +kernel
theorem dX8_addFrame_31 : decode cX8_addFrame 31 = .ok (.putfield 18, 3) := by decide +kernel
theorem dX8_addFrame_34 : decode cX8_addFrame 34 = .ok (.aload_n 0, 1) := by decide +kernel
theorem dX8_addFrame_35 : decode cX8_addFrame 35 = .ok (.getfield 18, 3) := by decide +kernel
theorem dX8_addFrame_38 : decode cX8_addFrame 38 = .ok (.iconst 1, 1) := by decide +kernel
theorem dX8_addFrame_39 : decode cX8_addFrame 39 = .ok (.isub, 1) := by decide +kernel
theorem dX8_addFrame_40 : decode cX8_addFrame 40 = .ok (.ireturn, 1) := by decide +kernel
theorem dX8_takeOut_0 : decode cX8_takeOut 0 = .ok (.aload_n 0, 1) := by decide +kernel
theorem dX8_takeOut_1 : decode cX8_takeOut 1 = .ok (.iload_n 1, 1) := by decide +kernel
theorem dX8_takeOut_2 : decode cX8_takeOut 2 = .ok (.invokevirtual 60, 3) := by decide +kernel
theorem dX8_takeOut_5 : decode cX8_takeOut 5 = .ok (.ifCond .ne 4, 3) := by decide +kernel
theorem dX8_takeOut_8 : decode cX8_takeOut 8 = .ok (.return_, 1) := by decide +kernel
theorem dX8_takeOut_9 : decode cX8_takeOut 9 = .ok (.aload_n 0, 1) := by decide +kernel
theorem dX8_takeOut_10 : decode cX8_takeOut 10 = .ok (.getfield 30, 3) := by decide +kernel
theorem dX8_takeOut_13 : decode cX8_takeOut 13 = .ok (.iload_n 1, 1) := by decide +kernel
theorem dX8_takeOut_14 : decode cX8_takeOut 14 = .ok (.aaload, 1) := by decide +kernel
theorem dX8_takeOut_15 : decode cX8_takeOut 15 = .ok (.astore_n 2, 1) := by decide +kernel
theorem dX8_takeOut_16 : decode cX8_takeOut 16 = .ok (.iload_n 1, 1) := by decide +kernel
theorem dX8_takeOut_17 : decode cX8_takeOut 17 = .ok (.istore_n 3, 1) := by decide +kernel
theorem dX8_takeOut_18 : decode cX8_takeOut 18 = .ok (.iload_n 3, 1) := by decide +kernel
theorem dX8_takeOut_19 : decode cX8_takeOut 19 = .ok (.iconst 1, 1) := by decide +kernel
theorem dX8_takeOut_20 : decode cX8_takeOut 20 = .ok (.iadd, 1) := by decide +kernel
theorem dX8_takeOut_21 : decode cX8_takeOut 21 = .ok (.aload_n 0, 1) := by decide +kernel
theorem dX8_takeOut_22 : decode cX8_takeOut 22 = .ok (.getfield 18, 3) := by decide +kernel
theorem dX8_takeOut_25 : decode cX8_takeOut 25 = .ok (.if_icmp .ge 23, 3) := by decide +kernel
theorem dX8_takeOut_28 : decode cX8_takeOut 28 = .ok (.aload_n 0, 1) := by decide +kernel
theorem dX8_takeOut_29 : decode cX8_takeOut 29 = .ok (.getfield 30, 3) := by decide +kernel
theorem dX8_takeOut_32 : decode cX8_takeOut 32 = .ok (.iload_n 3, 1) := by decide +kernel
theorem dX8_takeOut_33 : decode cX8_takeOut 33 = .ok (.aload_n 0, 1) := by decide +kernel
theorem dX8_takeOut_34 : decode cX8_takeOut 34 = .ok (.getfield 30, 3) := by decide +kernel
theorem dX8_takeOut_37 : decode cX8_takeOut 37 = .ok (.iload_n 3, 1) := by decide +kernel
theorem dX8_takeOut_38 : decode cX8_takeOut 38 = .ok (.iconst 1, 1) := by decide +kernel
theorem dX8_takeOut_39 : decode cX8_takeOut 39 = .ok (.iadd, 1) := by decide +kernel
theorem dX8_takeOut_40 : decode cX8_takeOut 40 = .ok (.aaload, 1) := by decide +kernel
theorem dX8_takeOut_41 : decode cX8_takeOut 41 = .ok (.aastore, 1) := by decide +kernel
theorem dX8_takeOut_42 : decode cX8_takeOut 42 = .ok (.iinc 3 1, 3) := by decide +kernel
theorem dX8_takeOut_45 : decode cX8_takeOut 45 = .ok (.goto (-27), 3) := by decide +kernel
theorem dX8_takeOut_48 : decode cX8_takeOut 48 = .ok (.aload_n 0, 1) := by decide +kernel
theorem dX8_takeOut_49 : decode cX8_takeOut 49 = .ok (.dup, 1) := by decide +kernel
theorem dX8_takeOut_50 : decode cX8_takeOut 50 = .ok (.getfield 18, 3) := by decide +kernel
theorem dX8_takeOut_53 : decode cX8_takeOut 53 = .ok (.iconst 1, 1) := by decide +kernel
theorem dX8_takeOut_54 : decode cX8_takeOut 54 = .ok (.isub, 1) := by decide +kernel
theorem dX8_takeOut_55 : decode cX8_takeOut 55 = .ok (.putfield 18, 3) := by decide +kernel
theorem dX8_takeOut_58 : decode cX8_takeOut 58 = .ok (.aload_n 0, 1) := by decide +kernel
theorem dX8_takeOut_59 : decode cX8_takeOut 59 = .ok (.getfield 30, 3) := by decide +kernel
theorem dX8_takeOut_62 : decode cX8_takeOut 62 = .ok (.aload_n 0, 1) := by decide +kernel
theorem dX8_takeOut_63 : decode cX8_takeOut 63 = .ok (.getfield 18, 3) := by decide +kernel
theorem dX8_takeOut_66 : decode cX8_takeOut 66 = .ok (.aload_n 2, 1) := by decide +kernel
theorem dX8_takeOut_67 : decode cX8_takeOut 67 = .ok (.aastore, 1) := by decide +kernel
theorem dX8_takeOut_68 : decode cX8_takeOut 68 = .ok (.return_, 1) := by decide +kernel
theorem dX8_putBack_0 : decode cX8_putBack 0 = .ok (.iload_n 1, 1) := by decide +kernel
theorem dX8_putBack_1 : decode cX8_putBack 1 = .ok (.ifCond .lt 20, 3) := by decide +kernel
theorem dX8_putBack_4 : decode cX8_putBack 4 = .ok (.iload_n 1, 1) := by decide +kernel
theorem dX8_putBack_5 : decode cX8_putBack 5 = .ok (.aload_n 0, 1) := by decide +kernel
theorem dX8_putBack_6 : decode cX8_putBack 6 = .ok (.getfield 18, 3) := by decide +kernel
theorem dX8_putBack_9 : decode cX8_putBack 9 = .ok (.if_icmp .gt 12, 3) := by decide +kernel
theorem dX8_putBack_12 : decode cX8_putBack 12 = .ok (.aload_n 0, 1) := by decide +kernel
theorem dX8_putBack_13 : decode cX8_putBack 13 = .ok (.getfield 18, 3) := by decide +kernel
theorem dX8_putBack_16 : decode cX8_putBack 16 = .ok (.bipush 6, 2) := by decide +kernel
theorem dX8_putBack_18 : decode cX8_putBack 18 = .ok (.if_icmp .lt 4, 3) := by decide +kernel
theorem dX8_putBack_21 : decode cX8_putBack 21 = .ok (.return_, 1) := by decide +kernel
theorem dX8_putBack_22 : decode cX8_putBack 22 = .ok (.aload_n 0, 1) := by decide +kernel
theorem dX8_putBack_23 : decode cX8_putBack 23 = .ok (.getfield 30, 3) := by decide +kernel
theorem dX8_putBack_26 : decode cX8_putBack 26 = .ok (.aload_n 0, 1) := by decide +kernel
theorem dX8_putBack_27 : decode cX8_putBack 27 = .ok (.getfield 18, 3) := by decide +kernel
theorem dX8_putBack_30 : decode cX8_putBack 30 = .ok (.aaload, 1) := by decide +kernel
theorem dX8_putBack_31 : decode cX8_putBack 31 = .ok (.astore_n 2, 1) := by decide +kernel
theorem dX8_putBack_32 : decode cX8_putBack 32 = .ok (.aload_n 0, 1) := by decide +kernel
theorem dX8_putBack_33 : decode cX8_putBack 33 = .ok (.getfield 18, 3) := by decide +kernel
theorem dX8_putBack_36 : decode cX8_putBack 36 = .ok (.istore_n 3, 1) := by decide +kernel
theorem dX8_putBack_37 : decode cX8_putBack 37 = .ok (.iload_n 3, 1) := by decide +kernel
theorem dX8_putBack_38 : decode cX8_putBack 38 = .ok (.iload_n 1, 1) := by decide +kernel
theorem dX8_putBack_39 : decode cX8_putBack 39 = .ok (.if_icmp .le 23, 3) := by decide +kernel
theorem dX8_putBack_42 : decode cX8_putBack 42 = .ok (.aload_n 0, 1) := by decide +kernel
theorem dX8_putBack_43 : decode cX8_putBack 43 = .ok (.getfield 30, 3) := by decide +kernel
theorem dX8_putBack_46 : decode cX8_putBack 46 = .ok (.iload_n 3, 1) := by decide +kernel
theorem dX8_putBack_47 : decode cX8_putBack 47 = .ok (.aload_n 0, 1) := by decide +kernel
theorem dX8_putBack_48 : decode cX8_putBack 48 = .ok (.getfield 30, 3) := by decide +kernel
theorem dX8_putBack_51 : decode cX8_putBack 51 = .ok (.iload_n 3, 1) := by decide +kernel
theorem dX8_putBack_52 : decode cX8_putBack 52 = .ok (.iconst 1, 1) := by decide +kernel
theorem dX8_putBack_53 : decode cX8_putBack 53 = .ok (.isub, 1) := by decide +kernel
theorem dX8_putBack_54 : decode cX8_putBack 54 = .ok (.aaload, 1) := by decide +kernel
theorem dX8_putBack_55 : decode cX8_putBack 55 = .ok (.aastore, 1) := by decide +kernel
theorem dX8_putBack_56 : decode cX8_putBack 56 = .ok (.iinc 3 (-1), 3) := by decide +kernel
theorem dX8_putBack_59 : decode cX8_putBack 59 = .ok (.goto (-22), 3) := by decide +kernel
theorem dX8_putBack_62 : decode cX8_putBack 62 = .ok (.aload_n 0, 1) := by decide +kernel
theorem dX8_putBack_63 : decode cX8_putBack 63 = .ok (.getfield 30, 3) := by decide +kernel
theorem dX8_putBack_66 : decode cX8_putBack 66 = .ok (.iload_n 1, 1) := by decide +kernel
theorem dX8_putBack_67 : decode cX8_putBack 67 = .ok (.aload_n 2, 1) := by decide +kernel
theorem dX8_putBack_68 : decode cX8_putBack 68 = .ok (.aastore, 1) := by decide +kernel
theorem dX8_putBack_69 : decode cX8_putBack 69 = .ok (.aload_n 0, 1) := by decide +kernel
theorem dX8_putBack_70 : decode cX8_putBack 70 = .ok (.dup, 1) := by decide +kernel
theorem dX8_putBack_71 : decode cX8_putBack 71 = .ok (.getfield 18, 3) := by decide +kernel
theorem dX8_putBack_74 : decode cX8_putBack 74 = .ok (.iconst 1, 1) := by decide +kernel
theorem dX8_putBack_75 : decode cX8_putBack 75 = .ok (.iadd, 1) := by decide +kernel
theorem dX8_putBack_76 : decode cX8_putBack 76 = .ok (.putfield 18, 3) := by decide +kernel
theorem dX8_putBack_79 : decode cX8_putBack 79 = .ok (.return_, 1) := by decide +kernel
theorem dX8_contrastOf_0 : decode cX8_contrastOf 0 = .ok (.aload_n 0, 1) := by decide +kernel
theorem dX8_contrastOf_1 : decode cX8_contrastOf 1 = .ok (.iload_n 1, 1) := by decide +kernel
theorem dX8_contrastOf_2 : decode cX8_contrastOf 2 = .ok (.invokevirtual 60, 3) := by decide +kernel
theorem dX8_contrastOf_5 : decode cX8_contrastOf 5 = .ok (.ifCond .ne 5, 3) := by decide +kernel
theorem dX8_contrastOf_8 : decode cX8_contrastOf 8 = .ok (.iconst 0, 1) := by decide +kernel
theorem dX8_contrastOf_9 : decode cX8_contrastOf 9 = .ok (.ireturn, 1) := by decide +kernel
theorem dX8_contrastOf_10 : decode cX8_contrastOf 10 = .ok (.aload_n 0, 1) := by decide +kernel
theorem dX8_contrastOf_11 : decode cX8_contrastOf 11 = .ok (.getfield 30, 3) := by decide +kernel
theorem dX8_contrastOf_14 : decode cX8_contrastOf 14 = .ok (.iload_n 1, 1) := by decide +kernel
theorem dX8_contrastOf_15 : decode cX8_contrastOf 15 = .ok (.aaload, 1) := by decide +kernel
theorem dX8_contrastOf_16 : decode cX8_contrastOf 16 = .ok (.getfield 71, 3) := by decide +kernel
theorem dX8_contrastOf_19 : decode cX8_contrastOf 19 = .ok (.astore_n 2, 1) := by decide +kernel
theorem dX8_contrastOf_20 : decode cX8_contrastOf 20 = .ok (.bipush 9, 2) := by decide +kernel
theorem dX8_contrastOf_22 : decode cX8_contrastOf 22 = .ok (.istore_n 3, 1) := by decide +kernel
theorem dX8_contrastOf_23 : decode cX8_contrastOf 23 = .ok (.iconst 0, 1) := by decide +kernel
theorem dX8_contrastOf_24 : decode cX8_contrastOf 24 = .ok (.istore 4, 2) := by decide +kernel
theorem dX8_contrastOf_26 : decode cX8_contrastOf 26 = .ok (.iconst 0, 1) := by decide +kernel
theorem dX8_contrastOf_27 : decode cX8_contrastOf 27 = .ok (.istore 5, 2) := by decide +kernel
theorem dX8_contrastOf_29 : decode cX8_contrastOf 29 = .ok (.iload 5, 2) := by decide +kernel
theorem dX8_contrastOf_31 : decode cX8_contrastOf 31 = .ok (.aload_n 0, 1) := by decide +kernel
theorem dX8_contrastOf_32 : decode cX8_contrastOf 32 = .ok (.getfield 15, 3) := by decide +kernel
theorem dX8_contrastOf_35 : decode cX8_contrastOf 35 = .ok (.if_icmp .ge 73, 3) := by decide +kernel
theorem dX8_contrastOf_38 : decode cX8_contrastOf 38 = .ok (.iload 5, 2) := by decide +kernel
theorem dX8_contrastOf_40 : decode cX8_contrastOf 40 = .ok (.bipush 10, 2) := by decide +kernel
theorem dX8_contrastOf_42 : decode cX8_contrastOf 42 = .ok (.if_icmp .ge 66, 3) := by decide +kernel
theorem dX8_contrastOf_45 : decode cX8_contrastOf 45 = .ok (.iconst 0, 1) := by decide +kernel
theorem dX8_contrastOf_46 : decode cX8_contrastOf 46 = .ok (.istore 6, 2) := by decide +kernel
theorem dX8_contrastOf_48 : decode cX8_contrastOf 48 = .ok (.iload 6, 2) := by decide +kernel
theorem dX8_contrastOf_50 : decode cX8_contrastOf 50 = .ok (.aload_n 0, 1) := by decide +kernel
theorem dX8_contrastOf_51 : decode cX8_contrastOf 51 = .ok (.getfield 9, 3) := by decide +kernel
theorem dX8_contrastOf_54 : decode cX8_contrastOf 54 = .ok (.if_icmp .ge 48, 3) := by decide +kernel
theorem dX8_contrastOf_57 : decode cX8_contrastOf 57 = .ok (.iload 6, 2) := by decide +kernel
theorem dX8_contrastOf_59 : decode cX8_contrastOf 59 = .ok (.bipush 12, 2) := by decide +kernel
theorem dX8_contrastOf_61 : decode cX8_contrastOf 61 = .ok (.if_icmp .ge 41, 3) := by decide +kernel
theorem dX8_contrastOf_64 : decode cX8_contrastOf 64 = .ok (.iload_n 3, 1) := by decide +kernel
theorem dX8_contrastOf_65 : decode cX8_contrastOf 65 = .ok (.aload_n 2, 1) := by decide +kernel
theorem dX8_contrastOf_66 : decode cX8_contrastOf 66 = .ok (.bipush 12, 2) := by decide +kernel
theorem dX8_contrastOf_68 : decode cX8_contrastOf 68 = .ok (.iload 5, 2) := by decide +kernel
theorem dX8_contrastOf_70 : decode cX8_contrastOf 70 = .ok (.imul, 1) := by decide +kernel
theorem dX8_contrastOf_71 : decode cX8_contrastOf 71 = .ok (.iload 6, 2) := by decide +kernel
theorem dX8_contrastOf_73 : decode cX8_contrastOf 73 = .ok (.iadd, 1) := by decide +kernel
theorem dX8_contrastOf_74 : decode cX8_contrastOf 74 = .ok (.iaload, 1) := by decide +kernel
theorem dX8_contrastOf_75 : decode cX8_contrastOf 75 = .ok (.invokestatic 74, 3) := by decide +kernel
theorem dX8_contrastOf_78 : decode cX8_contrastOf 78 = .ok (.istore_n 3, 1) := by decide +kernel
theorem dX8_contrastOf_79 : decode cX8_contrastOf 79 = .ok (.iload 4, 2) := by decide +kernel
theorem dX8_contrastOf_81 : decode cX8_contrastOf 81 = .ok (.aload_n 2, 1) := by decide +kernel
theorem dX8_contrastOf_82 : decode cX8_contrastOf 82 = .ok (.bipush 12, 2) := by decide +kernel
theorem dX8_contrastOf_84 : decode cX8_contrastOf 84 = .ok (.iload 5, 2) := by decide +kernel
theorem dX8_contrastOf_86 : decode cX8_contrastOf 86 = .ok (.imul, 1) := by decide +kernel
theorem dX8_contrastOf_87 : decode cX8_contrastOf 87 = .ok (.iload 6, 2) := by decide +kernel
theorem dX8_contrastOf_89 : decode cX8_contrastOf 89 = .ok (.iadd, 1) := by decide +kernel
theorem dX8_contrastOf_90 : decode cX8_contrastOf 90 = .ok (.iaload, 1) := by decide +kernel
theorem dX8_contrastOf_91 : decode cX8_contrastOf 91 = .ok (.invokestatic 80, 3) := by decide +kernel
theorem dX8_contrastOf_94 : decode cX8_contrastOf 94 = .ok (.istore 4, 2) := by decide +kernel
theorem dX8_contrastOf_96 : decode cX8_contrastOf 96 = .ok (.iinc 6 1, 3) := by decide +kernel
theorem dX8_contrastOf_99 : decode cX8_contrastOf 99 = .ok (.goto (-51), 3) := by decide +kernel
theorem dX8_contrastOf_102 : decode cX8_contrastOf 102 = .ok (.iinc 5 1, 3) := by decide +kernel
theorem dX8_contrastOf_105 : decode cX8_contrastOf 105 = .ok (.goto (-76), 3) := by decide +kernel
theorem dX8_contrastOf_108 : decode cX8_contrastOf 108 = .ok (.iload 4, 2) := by decide +kernel
theorem dX8_contrastOf_110 : decode cX8_contrastOf 110 = .ok (.iload_n 3, 1) := by decide +kernel
theorem dX8_contrastOf_111 : decode cX8_contrastOf 111 = .ok (.isub, 1) := by decide +kernel
theorem dX8_contrastOf_112 : decode cX8_contrastOf 112 = .ok (.ireturn, 1) := by decide +kernel
theorem dX8_usable_0 : decode cX8_usable 0 = .ok (.aload_n 0, 1) := by decide +kernel
theorem dX8_usable_1 : decode cX8_usable 1 = .ok (.iload_n 1, 1) := by decide +kernel
theorem dX8_usable_2 : decode cX8_usable 2 = .ok (.invokevirtual 60, 3) := by decide +kernel
theorem dX8_usable_5 : decode cX8_usable 5 = .ok (.ifCond .eq 21, 3) := by decide +kernel
theorem dX8_usable_8 : decode cX8_usable 8 = .ok (.aload_n 0, 1) := by decide +kernel
theorem dX8_usable_9 : decode cX8_usable 9 = .ok (.iload_n 1, 1) := by decide +kernel
theorem dX8_usable_10 : decode cX8_usable 10 = .ok (.invokevirtual 83, 3) := by decide +kernel
theorem dX8_usable_13 : decode cX8_usable 13 = .ok (.aload_n 0, 1) := by decide +kernel
theorem dX8_usable_14 : decode cX8_usable 14 = .ok (.getfield 24, 3) := by decide +kernel
theorem dX8_usable_17 : decode cX8_usable 17 = .ok (.iconst 3, 1) := by decide +kernel
theorem dX8_usable_18 : decode cX8_usable 18 = .ok (.iaload, 1) := by decide +kernel
theorem dX8_usable_19 : decode cX8_usable 19 = .ok (.if_icmp .lt 7, 3) := by decide +kernel
theorem dX8_usable_22 : decode cX8_usable 22 = .ok (.iconst 1, 1) := by decide +kernel
theorem dX8_usable_23 : decode cX8_usable 23 = .ok (.goto 4, 3) := by decide +kernel
theorem dX8_usable_26 : decode cX8_usable 26 = .ok (.iconst 0, 1) := by decide +kernel
theorem dX8_usable_27 : decode cX8_usable 27 = .ok (.ireturn, 1) := by decide +kernel
theorem dX8_usableFrom_0 : decode cX8_usableFrom 0 = .ok (.iload_n 1, 1) := by decide +kernel
theorem dX8_usableFrom_1 : decode cX8_usableFrom 1 = .ok (.iconst 0, 1) := by decide +kernel
theorem dX8_usableFrom_2 : decode cX8_usableFrom 2 = .ok (.invokestatic 80, 3) := by decide +kernel
theorem dX8_usableFrom_5 : decode cX8_usableFrom 5 = .ok (.istore_n 2, 1) := by decide +kernel
theorem dX8_usableFrom_6 : decode cX8_usableFrom 6 = .ok (.iload_n 2, 1) := by decide +kernel
theorem dX8_usableFrom_7 : decode cX8_usableFrom 7 = .ok (.aload_n 0, 1) := by decide +kernel
theorem dX8_usableFrom_8 : decode cX8_usableFrom 8 = .ok (.getfield 18, 3) := by decide +kernel
theorem dX8_usableFrom_11 : decode cX8_usableFrom 11 = .ok (.if_icmp .ge 19, 3) := by decide +kernel
theorem dX8_usableFrom_14 : decode cX8_usableFrom 14 = .ok (.aload_n 0, 1) := by decide +kernel
theorem dX8_usableFrom_15 : decode cX8_usableFrom 15 = .ok (.iload_n 2, 1) := by decide +kernel
theorem dX8_usableFrom_16 : decode cX8_usableFrom 16 = .ok (.invokevirtual 87, 3) := by decide +kernel
theorem dX8_usableFrom_19 : decode cX8_usableFrom 19 = .ok (.ifCond .eq 5, 3) := by decide +kernel
theorem dX8_usableFrom_22 : decode cX8_usableFrom 22 = .ok (.iload_n 2, 1) := by decide +kernel
theorem dX8_usableFrom_23 : decode cX8_usableFrom 23 = .ok (.ireturn, 1) := by decide +kernel
theorem dX8_usableFrom_24 : decode cX8_usableFrom 24 = .ok (.iinc 2 1, 3) := by decide +kernel
theorem dX8_usableFrom_27 : decode cX8_usableFrom 27 = .ok (.goto (-21), 3) := by decide +kernel
theorem dX8_usableFrom_30 : decode cX8_usableFrom 30 = .ok (.iconst (-1), 1) := by decide +kernel
theorem dX8_usableFrom_31 : decode cX8_usableFrom 31 = .ok (.ireturn, 1) := by decide +kernel
theorem dX8_gapAfter_0 : decode cX8_gapAfter 0 = .ok (.aload_n 0, 1) := by decide +kernel
theorem dX8_gapAfter_1 : decode cX8_gapAfter 1 = .ok (.iload_n 1, 1) := by decide +kernel
theorem dX8_gapAfter_2 : decode cX8_gapAfter 2 = .ok (.invokevirtual 87, 3) := by decide +kernel
theorem dX8_gapAfter_5 : decode cX8_gapAfter 5 = .ok (.ifCond .eq 13, 3) := by decide +kernel
theorem dX8_gapAfter_8 : decode cX8_gapAfter 8 = .ok (.aload_n 0, 1) := by decide +kernel
theorem dX8_gapAfter_9 : decode cX8_gapAfter 9 = .ok (.iload_n 1, 1) := by decide +kernel
theorem dX8_gapAfter_10 : decode cX8_gapAfter 10 = .ok (.iconst 1, 1) := by decide +kernel
theorem dX8_gapAfter_11 : decode cX8_gapAfter 11 = .ok (.iadd, 1) := by decide +kernel
theorem dX8_gapAfter_12 : decode cX8_gapAfter 12 = .ok (.invokevirtual 90, 3) := by decide +kernel
theorem dX8_gapAfter_15 : decode cX8_gapAfter 15 = .ok (.goto 4, 3) := by decide +kernel
theorem dX8_gapAfter_18 : decode cX8_gapAfter 18 = .ok (.iconst (-1), 1) := by decide +kernel
theorem dX8_gapAfter_19 : decode cX8_gapAfter 19 = .ok (.istore_n 2, 1) := by decide +kernel
theorem dX8_gapAfter_20 : decode cX8_gapAfter 20 = .ok (.iload_n 2, 1) := by decide +kernel
theorem dX8_gapAfter_21 : decode cX8_gapAfter 21 = .ok (.iconst (-1), 1) := by decide +kernel
theorem dX8_gapAfter_22 : decode cX8_gapAfter 22 = .ok (.if_icmp .ne 7, 3) := by decide +kernel
theorem dX8_gapAfter_25 : decode cX8_gapAfter 25 = .ok (.iconst 0, 1) := by decide +kernel
theorem dX8_gapAfter_26 : decode cX8_gapAfter 26 = .ok (.goto 14, 3) := by decide +kernel
theorem dX8_gapAfter_29 : decode cX8_gapAfter 29 = .ok (.aload_n 0, 1) := by decide +kernel
theorem dX8_gapAfter_30 : decode cX8_gapAfter 30 = .ok (.iload_n 2, 1) := by decide +kernel
theorem dX8_gapAfter_31 : decode cX8_gapAfter 31 = .ok (.invokevirtual 93, 3) := by decide +kernel
theorem dX8_gapAfter_34 : decode cX8_gapAfter 34 = .ok (.aload_n 0, 1) := by decide +kernel
theorem dX8_gapAfter_35 : decode cX8_gapAfter 35 = .ok (.iload_n 1, 1) := by decide +kernel
theorem dX8_gapAfter_36 : decode cX8_gapAfter 36 = .ok (.invokevirtual 93, 3) := by decide +kernel
theorem dX8_gapAfter_39 : decode cX8_gapAfter 39 = .ok (.isub, 1) := by decide +kernel
theorem dX8_gapAfter_40 : decode cX8_gapAfter 40 = .ok (.istore_n 3, 1) := by decide +kernel
theorem dX8_gapAfter_41 : decode cX8_gapAfter 41 = .ok (.iload_n 3, 1) := by decide +kernel
theorem dX8_gapAfter_42 : decode cX8_gapAfter 42 = .ok (.aload_n 0, 1) := by decide +kernel
theorem dX8_gapAfter_43 : decode cX8_gapAfter 43 = .ok (.getfield 24, 3) := by decide +kernel
theorem dX8_gapAfter_46 : decode cX8_gapAfter 46 = .ok (.bipush 6, 2) := by decide +kernel
theorem dX8_gapAfter_48 : decode cX8_gapAfter 48 = .ok (.iaload, 1) := by decide +kernel
theorem dX8_gapAfter_49 : decode cX8_gapAfter 49 = .ok (.if_icmp .le 7, 3) := by decide +kernel
theorem dX8_gapAfter_52 : decode cX8_gapAfter 52 = .ok (.iload_n 3, 1) := by decide +kernel
theorem dX8_gapAfter_53 : decode cX8_gapAfter 53 = .ok (.goto 4, 3) := by decide +kernel
theorem dX8_gapAfter_56 : decode cX8_gapAfter 56 = .ok (.iconst 0, 1) := by decide +kernel
theorem dX8_gapAfter_57 : decode cX8_gapAfter 57 = .ok (.ireturn, 1) := by decide +kernel
theorem dX8_windowPixels_0 : decode cX8_windowPixels 0 = .ok (.iconst 2, 1) := by decide +kernel
theorem dX8_windowPixels_1 : decode cX8_windowPixels 1 = .ok (.aload_n 0, 1) := by decide +kernel
theorem dX8_windowPixels_2 : decode cX8_windowPixels 2 = .ok (.getfield 24, 3) := by decide +kernel
theorem dX8_windowPixels_5 : decode cX8_windowPixels 5 = .ok (.iconst 0, 1) := by decide +kernel
theorem dX8_windowPixels_6 : decode cX8_windowPixels 6 = .ok (.iaload, 1) := by decide +kernel
theorem dX8_windowPixels_7 : decode cX8_windowPixels 7 = .ok (.imul, 1) := by decide +kernel
theorem dX8_windowPixels_8 : decode cX8_windowPixels 8 = .ok (.iconst 1, 1) := by decide +kernel
theorem dX8_windowPixels_9 : decode cX8_windowPixels 9 = .ok (.iadd, 1) := by decide +kernel
theorem dX8_windowPixels_10 : decode cX8_windowPixels 10 = .ok (.istore_n 1, 1) := by decide +kernel
theorem dX8_windowPixels_11 : decode cX8_windowPixels 11 = .ok (.iload_n 1, 1) := by decide +kernel
theorem dX8_windowPixels_12 : decode cX8_windowPixels 12 = .ok (.iload_n 1, 1) := by decide +kernel
theorem dX8_windowPixels_13 : decode cX8_windowPixels 13 = .ok (.imul, 1) := by decide +kernel
theorem dX8_windowPixels_14 : decode cX8_windowPixels 14 = .ok (.ireturn, 1) := by decide +kernel
theorem dX8_isWindowInside_0 : decode cX8_isWindowInside 0 = .ok (.aload_n 0, 1) := by decide +kernel
theorem dX8_isWindowInside_1 : decode cX8_isWindowInside 1 = .ok (.getfield 24, 3) := by decide +kernel
theorem dX8_isWindowInside_4 : decode cX8_isWindowInside 4 = .ok (.iconst 0, 1) := by decide +kernel
theorem dX8_isWindowInside_5 : decode cX8_isWindowInside 5 = .ok (.iaload, 1) := by decide +kernel
theorem dX8_isWindowInside_6 : decode cX8_isWindowInside 6 = .ok (.istore_n 3, 1) := by decide +kernel
theorem dX8_isWindowInside_7 : decode cX8_isWindowInside 7 = .ok (.iload_n 1, 1) := by decide +kernel
theorem dX8_isWindowInside_8 : decode cX8_isWindowInside 8 = .ok (.iload_n 3, 1) := by decide +kernel
theorem dX8_isWindowInside_9 : decode cX8_isWindowInside 9 = .ok (.if_icmp .lt 32, 3) := by decide +kernel
theorem dX8_isWindowInside_12 : decode cX8_isWindowInside 12 = .ok (.iload_n 1, 1) := by decide +kernel
theorem dX8_isWindowInside_13 : decode cX8_isWindowInside 13 = .ok (.aload_n 0, 1) := by decide +kernel
theorem dX8_isWindowInside_14 : decode cX8_isWindowInside 14 = .ok (.getfield 9, 3) := by decide +kernel
theorem dX8_isWindowInside_17 : decode cX8_isWindowInside 17 = .ok (.iload_n 3, 1) := by decide +kernel
theorem dX8_isWindowInside_18 : decode cX8_isWindowInside 18 = .ok (.isub, 1) := by decide +kernel
theorem dX8_isWindowInside_19 : decode cX8_isWindowInside 19 = .ok (.if_icmp .ge 22, 3) := by decide +kernel
theorem dX8_isWindowInside_22 : decode cX8_isWindowInside 22 = .ok (.iload_n 2, 1) := by decide +kernel
theorem dX8_isWindowInside_23 : decode cX8_isWindowInside 23 = .ok (.iload_n 3, 1) := by decide +kernel
theorem dX8_isWindowInside_24 : decode cX8_isWindowInside 24 = .ok (.if_icmp .lt 17, 3) := by decide +kernel
theorem dX8_isWindowInside_27 : decode cX8_isWindowInside 27 = .ok (.iload_n 2, 1) := by decide +kernel
theorem dX8_isWindowInside_28 : decode cX8_isWindowInside 28 = .ok (.aload_n 0, 1) := by decide +kernel
theorem dX8_isWindowInside_29 : decode cX8_isWindowInside 29 = .ok (.getfield 15, 3) := by decide +kernel
theorem dX8_isWindowInside_32 : decode cX8_isWindowInside 32 = .ok (.iload_n 3, 1) := by decide +kernel
theorem dX8_isWindowInside_33 : decode cX8_isWindowInside 33 = .ok (.isub, 1) := by decide +kernel
theorem dX8_isWindowInside_34 : decode cX8_isWindowInside 34 = .ok (.if_icmp .ge 7, 3) := by decide +kernel
theorem dX8_isWindowInside_37 : decode cX8_isWindowInside 37 = .ok (.iconst 1, 1) := by decide +kernel
theorem dX8_isWindowInside_38 : decode cX8_isWindowInside 38 = .ok (.goto 4, 3) := by decide +kernel
theorem dX8_isWindowInside_41 : decode cX8_isWindowInside 41 = .ok (.iconst 0, 1) := by decide +kernel
theorem dX8_isWindowInside_42 : decode cX8_isWindowInside 42 = .ok (.ireturn, 1) := by decide +kernel
theorem dX8_mismatch_0 : decode cX8_mismatch 0 = .ok (.aload_n 0, 1) := by decide +kernel
theorem dX8_mismatch_1 : decode cX8_mismatch 1 = .ok (.iload_n 1, 1) := by decide +kernel
theorem dX8_mismatch_2 : decode cX8_mismatch 2 = .ok (.invokevirtual 60, 3) := by decide +kernel
theorem dX8_mismatch_5 : decode cX8_mismatch 5 = .ok (.ifCond .eq 32, 3) := by decide +kernel
theorem dX8_mismatch_8 : decode cX8_mismatch 8 = .ok (.aload_n 0, 1) := by decide +kernel
theorem dX8_mismatch_9 : decode cX8_mismatch 9 = .ok (.iload 4, 2) := by decide +kernel
theorem dX8_mismatch_11 : decode cX8_mismatch 11 = .ok (.invokevirtual 60, 3) := by decide +kernel
theorem dX8_mismatch_14 : decode cX8_mismatch 14 = .ok (.ifCond .eq 23, 3) := by decide +kernel
theorem dX8_mismatch_17 : decode cX8_mismatch 17 = .ok (.aload_n 0, 1) := by decide +kernel
theorem dX8_mismatch_18 : decode cX8_mismatch 18 = .ok (.iload_n 2, 1) := by decide +kernel
theorem dX8_mismatch_19 : decode cX8_mismatch 19 = .ok (.iload_n 3, 1) := by decide +kernel
theorem dX8_mismatch_20 : decode cX8_mismatch 20 = .ok (.invokevirtual 96, 3) := by decide +kernel
theorem dX8_mismatch_23 : decode cX8_mismatch 23 = .ok (.ifCond .eq 14, 3) := by decide +kernel
theorem dX8_mismatch_26 : decode cX8_mismatch 26 = .ok (.aload_n 0, 1) := by decide +kernel
theorem dX8_mismatch_27 : decode cX8_mismatch 27 = .ok (.iload 5, 2) := by decide +kernel
theorem dX8_mismatch_29 : decode cX8_mismatch 29 = .ok (.iload 6, 2) := by decide +kernel
theorem dX8_mismatch_31 : decode cX8_mismatch 31 = .ok (.invokevirtual 96, 3) := by decide +kernel
theorem dX8_mismatch_34 : decode cX8_mismatch 34 = .ok (.ifCond .ne 5, 3) := by decide +kernel
theorem dX8_mismatch_37 : decode cX8_mismatch 37 = .ok (.iconst 0, 1) := by decide +kernel
theorem dX8_mismatch_38 : decode cX8_mismatch 38 = .ok (.ireturn, 1) := by decide +kernel
theorem dX8_mismatch_39 : decode cX8_mismatch 39 = .ok (.aload_n 0, 1) := by decide +kernel
theorem dX8_mismatch_40 : decode cX8_mismatch 40 = .ok (.getfield 30, 3) := by decide +kernel
theorem dX8_mismatch_43 : decode cX8_mismatch 43 = .ok (.iload_n 1, 1) := by decide +kernel
theorem dX8_mismatch_44 : decode cX8_mismatch 44 = .ok (.aaload, 1) := by decide +kernel
theorem dX8_mismatch_45 : decode cX8_mismatch 45 = .ok (.getfield 71, 3) := by decide +kernel
theorem dX8_mismatch_48 : decode cX8_mismatch 48 = .ok (.astore 7, 2) := by decide +kernel
theorem dX8_mismatch_50 : decode cX8_mismatch 50 = .ok (.aload_n 0, 1) := by decide +kernel
theorem dX8_mismatch_51 : decode cX8_mismatch 51 = .ok (.getfield 30, 3) := by decide +kernel
theorem dX8_mismatch_54 : decode cX8_mismatch 54 = .ok (.iload 4, 2) := by decide +kernel
theorem dX8_mismatch_56 : decode cX8_mismatch 56 = .ok (.aaload, 1) := by decide +kernel
theorem dX8_mismatch_57 : decode cX8_mismatch 57 = .ok (.getfield 71, 3) := by decide +kernel
theorem dX8_mismatch_60 : decode cX8_mismatch 60 = .ok (.astore 8, 2) := by decide +kernel
theorem dX8_mismatch_62 : decode cX8_mismatch 62 = .ok (.aload_n 0, 1) := by decide +kernel
theorem dX8_mismatch_63 : decode cX8_mismatch 63 = .ok (.getfield 24, 3) := by decide +kernel
theorem dX8_mismatch_66 : decode cX8_mismatch 66 = .ok (.iconst 0, 1) := by decide +kernel
theorem dX8_mismatch_67 : decode cX8_mismatch 67 = .ok (.iaload, 1) := by decide +kernel
theorem dX8_mismatch_68 : decode cX8_mismatch 68 = .ok (.istore 9, 2) := by decide +kernel
theorem dX8_mismatch_70 : decode cX8_mismatch 70 = .ok (.iconst 0, 1) := by decide +kernel
theorem dX8_mismatch_71 : decode cX8_mismatch 71 = .ok (.istore 10, 2) := by decide +kernel
theorem dX8_mismatch_73 : decode cX8_mismatch 73 = .ok (.iload 9, 2) := by decide +kernel
theorem dX8_mismatch_75 : decode cX8_mismatch 75 = .ok (.ineg, 1) := by decide +kernel
theorem dX8_mismatch_76 : decode cX8_mismatch 76 = .ok (.istore 11, 2) := by decide +kernel
theorem dX8_mismatch_78 : decode cX8_mismatch 78 = .ok (.iload 11, 2) := by decide +kernel
theorem dX8_mismatch_80 : decode cX8_mismatch 80 = .ok (.iload 9, 2) := by decide +kernel
theorem dX8_mismatch_82 : decode cX8_mismatch 82 = .ok (.if_icmp .gt 76, 3) := by decide +kernel
theorem dX8_mismatch_85 : decode cX8_mismatch 85 = .ok (.bipush 12, 2) := by decide +kernel
theorem dX8_mismatch_87 : decode cX8_mismatch 87 = .ok (.iload_n 3, 1) := by decide +kernel
theorem dX8_mismatch_88 : decode cX8_mismatch 88 = .ok (.iload 11, 2) := by decide +kernel
theorem dX8_mismatch_90 : decode cX8_mismatch 90 = .ok (.iadd, 1) := by decide +kernel
theorem dX8_mismatch_91 : decode cX8_mismatch 91 = .ok (.imul, 1) := by decide +kernel
theorem dX8_mismatch_92 : decode cX8_mismatch 92 = .ok (.iload_n 2, 1) := by decide +kernel
theorem dX8_mismatch_93 : decode cX8_mismatch 93 = .ok (.iadd, 1) := by decide +kernel
theorem dX8_mismatch_94 : decode cX8_mismatch 94 = .ok (.istore 12, 2) := by decide +kernel
theorem dX8_mismatch_96 : decode cX8_mismatch 96 = .ok (.bipush 12, 2) := by decide +kernel
theorem dX8_mismatch_98 : decode cX8_mismatch 98 = .ok (.iload 6, 2) := by decide +kernel
theorem dX8_mismatch_100 : decode cX8_mismatch 100 = .ok (.iload 11, 2) := by decide +kernel
theorem dX8_mismatch_102 : decode cX8_mismatch 102 = .ok (.iadd, 1) := by decide +kernel
theorem dX8_mismatch_103 : decode cX8_mismatch 103 = .ok (.imul, 1) := by decide +kernel
theorem dX8_mismatch_104 : decode cX8_mismatch 104 = .ok (.iload 5, 2) := by decide +kernel
theorem dX8_mismatch_106 : decode cX8_mismatch 106 = .ok (.iadd, 1) := by decide +kernel
theorem dX8_mismatch_107 : decode cX8_mismatch 107 = .ok (.istore 13, 2) := by decide +kernel
theorem dX8_mismatch_109 : decode cX8_mismatch 109 = .ok (.iload 9, 2) := by decide +kernel
theorem dX8_mismatch_111 : decode cX8_mismatch 111 = .ok (.ineg, 1) := by decide +kernel
theorem dX8_mismatch_112 : decode cX8_mismatch 112 = .ok (.istore 14, 2) := by decide +kernel
theorem dX8_mismatch_114 : decode cX8_mismatch 114 = .ok (.iload 14, 2) := by decide +kernel
theorem dX8_mismatch_116 : decode cX8_mismatch 116 = .ok (.iload 9, 2) := by decide +kernel
theorem dX8_mismatch_118 : decode cX8_mismatch 118 = .ok (.if_icmp .gt 34, 3) := by decide +kernel
theorem dX8_mismatch_121 : decode cX8_mismatch 121 = .ok (.iload 10, 2) := by decide +kernel
theorem dX8_mismatch_123 : decode cX8_mismatch 123 = .ok (.aload 7, 2) := by decide +kernel
theorem dX8_mismatch_125 : decode cX8_mismatch 125 = .ok (.iload 12, 2) := by decide +kernel
theorem dX8_mismatch_127 : decode cX8_mismatch 127 = .ok (.iload 14, 2) := by decide +kernel
theorem dX8_mismatch_129 : decode cX8_mismatch 129 = .ok (.iadd, 1) := by decide +kernel
theorem dX8_mismatch_130 : decode cX8_mismatch 130 = .ok (.iaload, 1) := by decide +kernel
theorem dX8_mismatch_131 : decode cX8_mismatch 131 = .ok (.aload 8, 2) := by decide +kernel
theorem dX8_mismatch_133 : decode cX8_mismatch 133 = .ok (.iload 13, 2) := by decide +kernel
theorem dX8_mismatch_135 : decode cX8_mismatch 135 = .ok (.iload 14, 2) := by decide +kernel
theorem dX8_mismatch_137 : decode cX8_mismatch 137 = .ok (.iadd, 1) := by decide +kernel
theorem dX8_mismatch_138 : decode cX8_mismatch 138 = .ok (.iaload, 1) := by decide +kernel
theorem dX8_mismatch_139 : decode cX8_mismatch 139 = .ok (.isub, 1) := by decide +kernel
theorem dX8_mismatch_140 : decode cX8_mismatch 140 = .ok (.invokestatic 99, 3) := by decide +kernel
theorem dX8_mismatch_143 : decode cX8_mismatch 143 = .ok (.iadd, 1) := by decide +kernel
theorem dX8_mismatch_144 : decode cX8_mismatch 144 = .ok (.istore 10, 2) := by decide +kernel
theorem dX8_mismatch_146 : decode cX8_mismatch 146 = .ok (.iinc 14 1, 3) := by decide +kernel
theorem dX8_mismatch_149 : decode cX8_mismatch 149 = .ok (.goto (-35), 3) := by decide +kernel
theorem dX8_mismatch_152 : decode cX8_mismatch 152 = .ok (.iinc 11 1, 3) := by decide +kernel
theorem dX8_mismatch_155 : decode cX8_mismatch 155 = .ok (.goto (-77), 3) := by decide +kernel
theorem dX8_mismatch_158 : decode cX8_mismatch 158 = .ok (.iload 10, 2) := by decide +kernel
theorem dX8_mismatch_160 : decode cX8_mismatch 160 = .ok (.ireturn, 1) := by decide +kernel
theorem dX8_errorOfShift_0 : decode cX8_errorOfShift 0 = .ok (.iconst 0, 1) := by decide +kernel
theorem dX8_errorOfShift_1 : decode cX8_errorOfShift 1 = .ok (.istore 5, 2) := by decide +kernel
theorem dX8_errorOfShift_3 : decode cX8_errorOfShift 3 = .ok (.iconst 0, 1) := by decide +kernel
theorem dX8_errorOfShift_4 : decode cX8_errorOfShift 4 = .ok (.istore 6, 2) := by decide +kernel
theorem dX8_errorOfShift_6 : decode cX8_errorOfShift 6 = .ok (.iload 6, 2) := by decide +kernel
theorem dX8_errorOfShift_8 : decode cX8_errorOfShift 8 = .ok (.aload_n 0, 1) := by decide +kernel
theorem dX8_errorOfShift_9 : decode cX8_errorOfShift 9 = .ok (.getfield 45, 3) := by decide +kernel
theorem dX8_errorOfShift_12 : decode cX8_errorOfShift 12 = .ok (.getfield 57, 3) := by decide +kernel
theorem dX8_errorOfShift_15 : decode cX8_errorOfShift 15 = .ok (.if_icmp .ge 86, 3) := by decide +kernel
theorem dX8_errorOfShift_18 : decode cX8_errorOfShift 18 = .ok (.aload_n 0, 1) := by decide +kernel
theorem dX8_errorOfShift_19 : decode cX8_errorOfShift 19 = .ok (.getfield 45, 3) := by decide +kernel
theorem dX8_errorOfShift_22 : decode cX8_errorOfShift 22 = .ok (.getfield 102, 3) := by decide +kernel
theorem dX8_errorOfShift_25 : decode cX8_errorOfShift 25 = .ok (.iload 6, 2) := by decide +kernel
theorem dX8_errorOfShift_27 : decode cX8_errorOfShift 27 = .ok (.iaload, 1) := by decide +kernel
theorem dX8_errorOfShift_28 : decode cX8_errorOfShift 28 = .ok (.istore 7, 2) := by decide +kernel
theorem dX8_errorOfShift_30 : decode cX8_errorOfShift 30 = .ok (.aload_n 0, 1) := by decide +kernel
theorem dX8_errorOfShift_31 : decode cX8_errorOfShift 31 = .ok (.getfield 45, 3) := by decide +kernel
theorem dX8_errorOfShift_34 : decode cX8_errorOfShift 34 = .ok (.getfield 105, 3) := by decide +kernel
theorem dX8_errorOfShift_37 : decode cX8_errorOfShift 37 = .ok (.iload 6, 2) := by decide +kernel
theorem dX8_errorOfShift_39 : decode cX8_errorOfShift 39 = .ok (.iaload, 1) := by decide +kernel
theorem dX8_errorOfShift_40 : decode cX8_errorOfShift 40 = .ok (.istore 8, 2) := by decide +kernel
theorem dX8_errorOfShift_42 : decode cX8_errorOfShift 42 = .ok (.aload_n 0, 1) := by decide +kernel
theorem dX8_errorOfShift_43 : decode cX8_errorOfShift 43 = .ok (.iload 7, 2) := by decide +kernel
theorem dX8_errorOfShift_45 : decode cX8_errorOfShift 45 = .ok (.iload 8, 2) := by decide +kernel
theorem dX8_errorOfShift_47 : decode cX8_errorOfShift 47 = .ok (.invokevirtual 96, 3) := by decide +kernel
theorem dX8_errorOfShift_50 : decode cX8_errorOfShift 50 = .ok (.ifCond .eq 19, 3) := by decide +kernel
theorem dX8_errorOfShift_53 : decode cX8_errorOfShift 53 = .ok (.aload_n 0, 1) := by decide +kernel
theorem dX8_errorOfShift_54 : decode cX8_errorOfShift 54 = .ok (.iload 7, 2) := by decide +kernel
theorem dX8_errorOfShift_56 : decode cX8_errorOfShift 56 = .ok (.iload_n 3, 1) := by decide +kernel
theorem dX8_errorOfShift_57 : decode cX8_errorOfShift 57 = .ok (.iadd, 1) := by decide +kernel
theorem dX8_errorOfShift_58 : decode cX8_errorOfShift 58 = .ok (.iload 8, 2) := by decide +kernel
theorem dX8_errorOfShift_60 : decode cX8_errorOfShift 60 = .ok (.iload 4, 2) := by decide +kernel
theorem dX8_errorOfShift_62 : decode cX8_errorOfShift 62 = .ok (.iadd, 1) := by decide +kernel
theorem dX8_errorOfShift_63 : decode cX8_errorOfShift 63 = .ok (.invokevirtual 96, 3) := by decide +kernel
theorem dX8_errorOfShift_66 : decode cX8_errorOfShift 66 = .ok (.ifCond .ne 5, 3) := by decide +kernel
theorem dX8_errorOfShift_69 : decode cX8_errorOfShift 69 = .ok (.iconst (-1), 1) := by decide +kernel
theorem dX8_errorOfShift_70 : decode cX8_errorOfShift 70 = .ok (.ireturn, 1) := by decide +kernel
theorem dX8_errorOfShift_71 : decode cX8_errorOfShift 71 = .ok (.iload 5, 2) := by decide +kernel
theorem dX8_errorOfShift_73 : decode cX8_errorOfShift 73 = .ok (.aload_n 0, 1) := by decide +kernel
theorem dX8_errorOfShift_74 : decode cX8_errorOfShift 74 = .ok (.iload_n 1, 1) := by decide +kernel
theorem dX8_errorOfShift_75 : decode cX8_errorOfShift 75 = .ok (.iload 7, 2) := by decide +kernel
theorem dX8_errorOfShift_77 : decode cX8_errorOfShift 77 = .ok (.iload 8, 2) := by decide +kernel
theorem dX8_errorOfShift_79 : decode cX8_errorOfShift 79 = .ok (.iload_n 2, 1) := by decide +kernel
theorem dX8_errorOfShift_80 : decode cX8_errorOfShift 80 = .ok (.iload 7, 2) := by decide +kernel
theorem dX8_errorOfShift_82 : decode cX8_errorOfShift 82 = .ok (.iload_n 3, 1) := by decide +kernel
theorem dX8_errorOfShift_83 : decode cX8_errorOfShift 83 = .ok (.iadd, 1) := by decide +kernel
theorem dX8_errorOfShift_84 : decode cX8_errorOfShift 84 = .ok (.iload 8, 2) := by decide +kernel
theorem dX8_errorOfShift_86 : decode cX8_errorOfShift 86 = .ok (.iload 4, 2) := by decide +kernel
theorem dX8_errorOfShift_88 : decode cX8_errorOfShift 88 = .ok (.iadd, 1) := by decide +kernel
theorem dX8_errorOfShift_89 : decode cX8_errorOfShift 89 = .ok (.invokevirtual 108, 3) := by decide +kernel
theorem dX8_errorOfShift_92 : decode cX8_errorOfShift 92 = .ok (.iadd, 1) := by decide +kernel
theorem dX8_errorOfShift_93 : decode cX8_errorOfShift 93 = .ok (.istore 5, 2) := by decide +kernel
theorem dX8_errorOfShift_95 : decode cX8_errorOfShift 95 = .ok (.iinc 6 1, 3) := by decide +kernel
theorem dX8_errorOfShift_98 : decode cX8_errorOfShift 98 = .ok (.goto (-92), 3) := by decide +kernel
theorem dX8_errorOfShift_101 : decode cX8_errorOfShift 101 = .ok (.iload 5, 2) := by decide +kernel
theorem dX8_errorOfShift_103 : decode cX8_errorOfShift 103 = .ok (.ireturn, 1) := by decide +kernel
theorem dX9_init_0 : decode cX9_init 0 = .ok (.aload_n 0, 1) := by decide +kernel
theorem dX9_init_1 : decode cX9_init 1 = .ok (.invokespecial 3, 3) := by decide +kernel
theorem dX9_init_4 : decode cX9_init 4 = .ok (.aload_n 0, 1) := by decide +kernel
theorem dX9_init_5 : decode cX9_init 5 = .ok (.iconst 0, 1) := by decide +kernel
theorem dX9_init_6 : decode cX9_init 6 = .ok (.putfield 9, 3) := by decide +kernel
theorem dX9_init_9 : decode cX9_init 9 = .ok (.aload_n 0, 1) := by decide +kernel
theorem dX9_init_10 : decode cX9_init 10 = .ok (.bipush 8, 2) := by decide +kernel
theorem dX9_init_12 : decode cX9_init 12 = .ok (.newarray .int, 2) := by decide +kernel
theorem dX9_init_14 : decode cX9_init 14 = .ok (.putfield 15, 3) := by decide +kernel
theorem dX9_init_17 : decode cX9_init 17 = .ok (.aload_n 0, 1) := by decide +kernel
theorem dX9_init_18 : decode cX9_init 18 = .ok (.bipush 8, 2) := by decide +kernel
theorem dX9_init_20 : decode cX9_init 20 = .ok (.newarray .int, 2) := by decide +kernel
theorem dX9_init_22 : decode cX9_init 22 = .ok (.putfield 19, 3) := by decide +kernel
theorem dX9_init_25 : decode cX9_init 25 = .ok (.return_, 1) := by decide +kernel
theorem dX9_readingOn_0 : decode cX9_readingOn 0 = .ok (.iconst 0, 1) := by decide +kernel
theorem dX9_readingOn_1 : decode cX9_readingOn 1 = .ok (.istore_n 2, 1) := by decide +kernel
theorem dX9_readingOn_2 : decode cX9_readingOn 2 = .ok (.iload_n 2, 1) := by decide +kernel
theorem dX9_readingOn_3 : decode cX9_readingOn 3 = .ok (.aload_n 0, 1) := by decide +kernel
theorem dX9_readingOn_4 : decode cX9_readingOn 4 = .ok (.getfield 9, 3) := by decide +kernel
theorem dX9_readingOn_7 : decode cX9_readingOn 7 = .ok (.if_icmp .ge 21, 3) := by decide +kernel
theorem dX9_readingOn_10 : decode cX9_readingOn 10 = .ok (.aload_n 0, 1) := by decide +kernel
theorem dX9_readingOn_11 : decode cX9_readingOn 11 = .ok (.getfield 15, 3) := by decide +kernel
theorem dX9_readingOn_14 : decode cX9_readingOn 14 = .ok (.iload_n 2, 1) := by decide +kernel
theorem dX9_readingOn_15 : decode cX9_readingOn 15 = .ok (.iaload, 1) := by decide +kernel
theorem dX9_readingOn_16 : decode cX9_readingOn 16 = .ok (.iload_n 1, 1) := by decide +kernel
theorem dX9_readingOn_17 : decode cX9_readingOn 17 = .ok (.if_icmp .ne 5, 3) := by decide +kernel
theorem dX9_readingOn_20 : decode cX9_readingOn 20 = .ok (.iload_n 2, 1) := by decide +kernel
theorem dX9_readingOn_21 : decode cX9_readingOn 21 = .ok (.ireturn, 1) := by decide +kernel
theorem dX9_readingOn_22 : decode cX9_readingOn 22 = .ok (.iinc 2 1, 3) := by decide +kernel
theorem dX9_readingOn_25 : decode cX9_readingOn 25 = .ok (.goto (-23), 3) := by decide +kernel
theorem dX9_readingOn_28 : decode cX9_readingOn 28 = .ok (.iconst (-1), 1) := by decide +kernel
theorem dX9_readingOn_29 : decode cX9_readingOn 29 = .ok (.ireturn, 1) := by decide +kernel
theorem dX9_insert_0 : decode cX9_insert 0 = .ok (.aload_n 0, 1) := by decide +kernel
theorem dX9_insert_1 : decode cX9_insert 1 = .ok (.getfield 9, 3) := by decide +kernel
theorem dX9_insert_4 : decode cX9_insert 4 = .ok (.bipush 8, 2) := by decide +kernel
theorem dX9_insert_6 : decode cX9_insert 6 = .ok (.if_icmp .lt 4, 3) := by decide +kernel
theorem dX9_insert_9 : decode cX9_insert 9 = .ok (.return_, 1) := by decide +kernel
theorem dX9_insert_10 : decode cX9_insert 10 = .ok (.aload_n 0, 1) := by decide +kernel
theorem dX9_insert_11 : decode cX9_insert 11 = .ok (.getfield 9, 3) := by decide +kernel
theorem dX9_insert_14 : decode cX9_insert 14 = .ok (.istore_n 3, 1) := by decide +kernel
theorem dX9_insert_15 : decode cX9_insert 15 = .ok (.iload_n 3, 1) := by decide +kernel
theorem dX9_insert_16 : decode cX9_insert 16 = .ok (.ifCond .le 49, 3) := by decide +kernel
theorem dX9_insert_19 : decode cX9_insert 19 = .ok (.aload_n 0, 1) := by decide +kernel
theorem dX9_insert_20 : decode cX9_insert 20 = .ok (.getfield 15, 3) := by decide +kernel
theorem dX9_insert_23 : decode cX9_insert 23 = .ok (.iload_n 3, 1) := by decide +kernel
theorem dX9_insert_24 : decode cX9_insert 24 = .ok (.iconst 1, 1) := by decide +kernel
theorem dX9_insert_25 : decode cX9_insert 25 = .ok (.isub, 1) := by decide +kernel
theorem dX9_insert_26 : decode cX9_insert 26 = .ok (.iaload, 1) := by decide +kernel
theorem dX9_insert_27 : decode cX9_insert 27 = .ok (.iload_n 1, 1) := by decide +kernel
theorem dX9_insert_28 : decode cX9_insert 28 = .ok (.if_icmp .le 37, 3) := by decide +kernel
theorem dX9_insert_31 : decode cX9_insert 31 = .ok (.aload_n 0, 1) := by decide +kernel
theorem dX9_insert_32 : decode cX9_insert 32 = .ok (.getfield 15, 3) := by decide +kernel
theorem dX9_insert_35 : decode cX9_insert 35 = .ok (.iload_n 3, 1) := by decide +kernel
theorem dX9_insert_36 : decode cX9_insert 36 = .ok (.aload_n 0, 1) := by decide +kernel
theorem dX9_insert_37 : decode cX9_insert 37 = .ok (.getfield 15, 3) := by decide +kernel
theorem dX9_insert_40 : decode cX9_insert 40 = .ok (.iload_n 3, 1) := by decide +kernel
theorem dX9_insert_41 : decode cX9_insert 41 = .ok (.iconst 1, 1) := by decide +kernel
theorem dX9_insert_42 : decode cX9_insert 42 = .ok (.isub, 1) := by decide +kernel
theorem dX9_insert_43 : decode cX9_insert 43 = .ok (.iaload, 1) := by decide +kernel
theorem dX9_insert_44 : decode cX9_insert 44 = .ok (.iastore, 1) := by decide +kernel
theorem dX9_insert_45 : decode cX9_insert 45 = .ok (.aload_n 0, 1) := by decide +kernel
theorem dX9_insert_46 : decode cX9_insert 46 = .ok (.getfield 19, 3) := by decide +kernel
theorem dX9_insert_49 : decode cX9_insert 49 = .ok (.iload_n 3, 1) := by decide +kernel
theorem dX9_insert_50 : decode cX9_insert 50 = .ok (.aload_n 0, 1) := by decide +kernel
theorem dX9_insert_51 : decode cX9_insert 51 = .ok (.getfield 19, 3) := by decide +kernel
theorem dX9_insert_54 : decode cX9_insert 54 = .ok (.iload_n 3, 1) := by decide +kernel
theorem dX9_insert_55 : decode cX9_insert 55 = .ok (.iconst 1, 1) := by decide +kernel
theorem dX9_insert_56 : decode cX9_insert 56 = .ok (.isub, 1) := by decide +kernel
theorem dX9_insert_57 : decode cX9_insert 57 = .ok (.iaload, 1) := by decide +kernel
theorem dX9_insert_58 : decode cX9_insert 58 = .ok (.iastore, 1) := by decide +kernel
theorem dX9_insert_59 : decode cX9_insert 59 = .ok (.iinc 3 (-1), 3) := by decide +kernel
theorem dX9_insert_62 : decode cX9_insert 62 = .ok (.goto (-47), 3) := by decide +kernel
theorem dX9_insert_65 : decode cX9_insert 65 = .ok (.aload_n 0, 1) := by decide +kernel
theorem dX9_insert_66 : decode cX9_insert 66 = .ok (.getfield 15, 3) := by decide +kernel
theorem dX9_insert_69 : decode cX9_insert 69 = .ok (.iload_n 3, 1) := by decide +kernel
theorem dX9_insert_70 : decode cX9_insert 70 = .ok (.iload_n 1, 1) := by decide +kernel
theorem dX9_insert_71 : decode cX9_insert 71 = .ok (.iastore, 1) := by decide +kernel
theorem dX9_insert_72 : decode cX9_insert 72 = .ok (.aload_n 0, 1) := by decide +kernel
theorem dX9_insert_73 : decode cX9_insert 73 = .ok (.getfield 19, 3) := by decide +kernel
theorem dX9_insert_76 : decode cX9_insert 76 = .ok (.iload_n 3, 1) := by decide +kernel
theorem dX9_insert_77 : decode cX9_insert 77 = .ok (.iload_n 2, 1) := by decide +kernel
theorem dX9_insert_78 : decode cX9_insert 78 = .ok (.iastore, 1) := by decide +kernel
theorem dX9_insert_79 : decode cX9_insert 79 = .ok (.aload_n 0, 1) := by decide +kernel
theorem dX9_insert_80 : decode cX9_insert 80 = .ok (.dup, 1) := by decide +kernel
theorem dX9_insert_81 : decode cX9_insert 81 = .ok (.getfield 9, 3) := by decide +kernel
theorem dX9_insert_84 : decode cX9_insert 84 = .ok (.iconst 1, 1) := by decide +kernel
theorem dX9_insert_85 : decode cX9_insert 85 = .ok (.iadd, 1) := by decide +kernel
theorem dX9_insert_86 : decode cX9_insert 86 = .ok (.putfield 9, 3) := by decide +kernel
theorem dX9_insert_89 : decode cX9_insert 89 = .ok (.return_, 1) := by decide +kernel
theorem dX9_delete_0 : decode cX9_delete 0 = .ok (.aload_n 0, 1) := by decide +kernel
theorem dX9_delete_1 : decode cX9_delete 1 = .ok (.iload_n 1, 1) := by decide +kernel
theorem dX9_delete_2 : decode cX9_delete 2 = .ok (.invokevirtual 22, 3) := by decide +kernel
theorem dX9_delete_5 : decode cX9_delete 5 = .ok (.istore_n 2, 1) := by decide +kernel
theorem dX9_delete_6 : decode cX9_delete 6 = .ok (.iload_n 2, 1) := by decide +kernel
theorem dX9_delete_7 : decode cX9_delete 7 = .ok (.iconst (-1), 1) := by decide +kernel
theorem dX9_delete_8 : decode cX9_delete 8 = .ok (.if_icmp .ne 4, 3) := by decide +kernel
theorem dX9_delete_11 : decode cX9_delete 11 = .ok (.return_, 1) := by decide +kernel
theorem dX9_delete_12 : decode cX9_delete 12 = .ok (.iload_n 2, 1) := by decide +kernel
theorem dX9_delete_13 : decode cX9_delete 13 = .ok (.istore_n 3, 1) := by decide +kernel
theorem dX9_delete_14 : decode cX9_delete 14 = .ok (.iload_n 3, 1) := by decide +kernel
theorem dX9_delete_15 : decode cX9_delete 15 = .ok (.iconst 1, 1) := by decide +kernel
theorem dX9_delete_16 : decode cX9_delete 16 = .ok (.iadd, 1) := by decide +kernel
theorem dX9_delete_17 : decode cX9_delete 17 = .ok (.aload_n 0, 1) := by decide +kernel
theorem dX9_delete_18 : decode cX9_delete 18 = .ok (.getfield 9, 3) := by decide +kernel
theorem dX9_delete_21 : decode cX9_delete 21 = .ok (.if_icmp .ge 37, 3) := by decide +kernel
theorem dX9_delete_24 : decode cX9_delete 24 = .ok (.aload_n 0, 1) := by decide +kernel
theorem dX9_delete_25 : decode cX9_delete 25 = .ok (.getfield 15, 3) := by decide +kernel
theorem dX9_delete_28 : decode cX9_delete 28 = .ok (.iload_n 3, 1) := by decide +kernel
theorem dX9_delete_29 : decode cX9_delete 29 = .ok (.aload_n 0, 1) := by decide +kernel
theorem dX9_delete_30 : decode cX9_delete 30 = .ok (.getfield 15, 3) := by decide +kernel
theorem dX9_delete_33 : decode cX9_delete 33 = .ok (.iload_n 3, 1) := by decide +kernel
theorem dX9_delete_34 : decode cX9_delete 34 = .ok (.iconst 1, 1) := by decide +kernel
theorem dX9_delete_35 : decode cX9_delete 35 = .ok (.iadd, 1) := by decide +kernel
theorem dX9_delete_36 : decode cX9_delete 36 = .ok (.iaload, 1) := by decide +kernel
theorem dX9_delete_37 : decode cX9_delete 37 = .ok (.iastore, 1) := by decide +kernel
theorem dX9_delete_38 : decode cX9_delete 38 = .ok (.aload_n 0, 1) := by decide +kernel
theorem dX9_delete_39 : decode cX9_delete 39 = .ok (.getfield 19, 3) := by decide +kernel
theorem dX9_delete_42 : decode cX9_delete 42 = .ok (.iload_n 3, 1) := by decide +kernel
theorem dX9_delete_43 : decode cX9_delete 43 = .ok (.aload_n 0, 1) := by decide +kernel
theorem dX9_delete_44 : decode cX9_delete 44 = .ok (.getfield 19, 3) := by decide +kernel
theorem dX9_delete_47 : decode cX9_delete 47 = .ok (.iload_n 3, 1) := by decide +kernel
theorem dX9_delete_48 : decode cX9_delete 48 = .ok (.iconst 1, 1) := by decide +kernel
theorem dX9_delete_49 : decode cX9_delete 49 = .ok (.iadd, 1) := by decide +kernel
theorem dX9_delete_50 : decode cX9_delete 50 = .ok (.iaload, 1) := by decide +kernel
theorem dX9_delete_51 : decode cX9_delete 51 = .ok (.iastore, 1) := by decide +kernel
theorem dX9_delete_52 : decode cX9_delete 52 = .ok (.iinc 3 1, 3) := by decide +kernel
theorem dX9_delete_55 : decode cX9_delete 55 = .ok (.goto (-41), 3) := by decide +kernel
theorem dX9_delete_58 : decode cX9_delete 58 = .ok (.aload_n 0, 1) := by decide +kernel
theorem dX9_delete_59 : decode cX9_delete 59 = .ok (.dup, 1) := by decide +kernel
theorem dX9_delete_60 : decode cX9_delete 60 = .ok (.getfield 9, 3) := by decide +kernel
theorem dX9_delete_63 : decode cX9_delete 63 = .ok (.iconst 1, 1) := by decide +kernel
theorem dX9_delete_64 : decode cX9_delete 64 = .ok (.isub, 1) := by decide +kernel
theorem dX9_delete_65 : decode cX9_delete 65 = .ok (.putfield 9, 3) := by decide +kernel
theorem dX9_delete_68 : decode cX9_delete 68 = .ok (.return_, 1) := by decide +kernel
theorem dX9_hasInterval_0 : decode cX9_hasInterval 0 = .ok (.iload_n 1, 1) := by decide +kernel
theorem dX9_hasInterval_1 : decode cX9_hasInterval 1 = .ok (.ifCond .lt 17, 3) := by decide +kernel
theorem dX9_hasInterval_4 : decode cX9_hasInterval 4 = .ok (.iload_n 1, 1) := by decide +kernel
theorem dX9_hasInterval_5 : decode cX9_hasInterval 5 = .ok (.aload_n 0, 1) := by decide +kernel
theorem dX9_hasInterval_6 : decode cX9_hasInterval 6 = .ok (.getfield 9, 3) := by decide +kernel
theorem dX9_hasInterval_9 : decode cX9_hasInterval 9 = .ok (.iconst 1, 1) := by decide +kernel
theorem dX9_hasInterval_10 : decode cX9_hasInterval 10 = .ok (.isub, 1) := by decide +kernel
theorem dX9_hasInterval_11 : decode cX9_hasInterval 11 = .ok (.if_icmp .ge 7, 3) := by decide +kernel
theorem dX9_hasInterval_14 : decode cX9_hasInterval 14 = .ok (.iconst 1, 1) := by decide +kernel
theorem dX9_hasInterval_15 : decode cX9_hasInterval 15 = .ok (.goto 4, 3) := by decide +kernel
theorem dX9_hasInterval_18 : decode cX9_hasInterval 18 = .ok (.iconst 0, 1) := by decide +kernel
theorem dX9_hasInterval_19 : decode cX9_hasInterval 19 = .ok (.ireturn, 1) := by decide +kernel
theorem dX9_drilledIn_0 : decode cX9_drilledIn 0 = .ok (.aload_n 0, 1) := by decide +kernel
theorem dX9_drilledIn_1 : decode cX9_drilledIn 1 = .ok (.iload_n 1, 1) := by decide +kernel
theorem dX9_drilledIn_2 : decode cX9_drilledIn 2 = .ok (.invokevirtual 26, 3) := by decide +kernel
theorem dX9_drilledIn_5 : decode cX9_drilledIn 5 = .ok (.ifCond .eq 24, 3) := by decide +kernel
theorem dX9_drilledIn_8 : decode cX9_drilledIn 8 = .ok (.aload_n 0, 1) := by decide +kernel
theorem dX9_drilledIn_9 : decode cX9_drilledIn 9 = .ok (.getfield 19, 3) := by decide +kernel
theorem dX9_drilledIn_12 : decode cX9_drilledIn 12 = .ok (.iload_n 1, 1) := by decide +kernel
theorem dX9_drilledIn_13 : decode cX9_drilledIn 13 = .ok (.iconst 1, 1) := by decide +kernel
theorem dX9_drilledIn_14 : decode cX9_drilledIn 14 = .ok (.iadd, 1) := by decide +kernel
theorem dX9_drilledIn_15 : decode cX9_drilledIn 15 = .ok (.iaload, 1) := by decide +kernel
theorem dX9_drilledIn_16 : decode cX9_drilledIn 16 = .ok (.aload_n 0, 1) := by decide +kernel
theorem dX9_drilledIn_17 : decode cX9_drilledIn 17 = .ok (.getfield 19, 3) := by decide +kernel
theorem dX9_drilledIn_20 : decode cX9_drilledIn 20 = .ok (.iload_n 1, 1) := by decide +kernel
theorem dX9_drilledIn_21 : decode cX9_drilledIn 21 = .ok (.iaload, 1) := by decide +kernel
theorem dX9_drilledIn_22 : decode cX9_drilledIn 22 = .ok (.if_icmp .ge 7, 3) := by decide +kernel
theorem dX9_drilledIn_25 : decode cX9_drilledIn 25 = .ok (.iconst 1, 1) := by decide +kernel
theorem dX9_drilledIn_26 : decode cX9_drilledIn 26 = .ok (.goto 4, 3) := by decide +kernel
theorem dX9_drilledIn_29 : decode cX9_drilledIn 29 = .ok (.iconst 0, 1) := by decide +kernel
theorem dX9_drilledIn_30 : decode cX9_drilledIn 30 = .ok (.ireturn, 1) := by decide +kernel
theorem dX9_meltIn_0 : decode cX9_meltIn 0 = .ok (.aload_n 0, 1) := by decide +kernel
theorem dX9_meltIn_1 : decode cX9_meltIn 1 = .ok (.iload_n 1, 1) := by decide +kernel
theorem dX9_meltIn_2 : decode cX9_meltIn 2 = .ok (.invokevirtual 26, 3) := by decide +kernel
theorem dX9_meltIn_5 : decode cX9_meltIn 5 = .ok (.ifCond .ne 5, 3) := by decide +kernel
theorem dX9_meltIn_8 : decode cX9_meltIn 8 = .ok (.iconst 0, 1) := by decide +kernel
theorem dX9_meltIn_9 : decode cX9_meltIn 9 = .ok (.ireturn, 1) := by decide +kernel
theorem dX9_meltIn_10 : decode cX9_meltIn 10 = .ok (.aload_n 0, 1) := by decide +kernel
theorem dX9_meltIn_11 : decode cX9_meltIn 11 = .ok (.getfield 19, 3) := by decide +kernel
theorem dX9_meltIn_14 : decode cX9_meltIn 14 = .ok (.iload_n 1, 1) := by decide +kernel
theorem dX9_meltIn_15 : decode cX9_meltIn 15 = .ok (.iaload, 1) := by decide +kernel
theorem dX9_meltIn_16 : decode cX9_meltIn 16 = .ok (.istore_n 2, 1) := by decide +kernel
theorem dX9_meltIn_17 : decode cX9_meltIn 17 = .ok (.aload_n 0, 1) := by decide +kernel
theorem dX9_meltIn_18 : decode cX9_meltIn 18 = .ok (.getfield 19, 3) := by decide +kernel
theorem dX9_meltIn_21 : decode cX9_meltIn 21 = .ok (.iload_n 1, 1) := by decide +kernel
theorem dX9_meltIn_22 : decode cX9_meltIn 22 = .ok (.iconst 1, 1) := by decide +kernel
theorem dX9_meltIn_23 : decode cX9_meltIn 23 = .ok (.iadd, 1) := by decide +kernel
theorem dX9_meltIn_24 : decode cX9_meltIn 24 = .ok (.iaload, 1) := by decide +kernel
theorem dX9_meltIn_25 : decode cX9_meltIn 25 = .ok (.istore_n 3, 1) := by decide +kernel
theorem dX9_meltIn_26 : decode cX9_meltIn 26 = .ok (.iload_n 3, 1) := by decide +kernel
theorem dX9_meltIn_27 : decode cX9_meltIn 27 = .ok (.iload_n 2, 1) := by decide +kernel
theorem dX9_meltIn_28 : decode cX9_meltIn 28 = .ok (.if_icmp .ge 7, 3) := by decide +kernel
theorem dX9_meltIn_31 : decode cX9_meltIn 31 = .ok (.iload_n 3, 1) := by decide +kernel
theorem dX9_meltIn_32 : decode cX9_meltIn 32 = .ok (.goto 6, 3) := by decide +kernel
theorem dX9_meltIn_35 : decode cX9_meltIn 35 = .ok (.iload_n 3, 1) := by decide +kernel
theorem dX9_meltIn_36 : decode cX9_meltIn 36 = .ok (.iload_n 2, 1) := by decide +kernel
theorem dX9_meltIn_37 : decode cX9_meltIn 37 = .ok (.isub, 1) := by decide +kernel
theorem dX9_meltIn_38 : decode cX9_meltIn 38 = .ok (.ireturn, 1) := by decide +kernel
theorem dX9_daysOf_0 : decode cX9_daysOf 0 = .ok (.aload_n 0, 1) := by decide +kernel
theorem dX9_daysOf_1 : decode cX9_daysOf 1 = .ok (.iload_n 1, 1) := by decide +kernel
theorem dX9_daysOf_2 : decode cX9_daysOf 2 = .ok (.invokevirtual 26, 3) := by decide +kernel
theorem dX9_daysOf_5 : decode cX9_daysOf 5 = .ok (.ifCond .eq 21, 3) := by decide +kernel
theorem dX9_daysOf_8 : decode cX9_daysOf 8 = .ok (.aload_n 0, 1) := by decide +kernel
theorem dX9_daysOf_9 : decode cX9_daysOf 9 = .ok (.getfield 15, 3) := by decide +kernel
theorem dX9_daysOf_12 : decode cX9_daysOf 12 = .ok (.iload_n 1, 1) := by decide +kernel
theorem dX9_daysOf_13 : decode cX9_daysOf 13 = .ok (.iconst 1, 1) := by decide +kernel
theorem dX9_daysOf_14 : decode cX9_daysOf 14 = .ok (.iadd, 1) := by decide +kernel
theorem dX9_daysOf_15 : decode cX9_daysOf 15 = .ok (.iaload, 1) := by decide +kernel
theorem dX9_daysOf_16 : decode cX9_daysOf 16 = .ok (.aload_n 0, 1) := by decide +kernel
theorem dX9_daysOf_17 : decode cX9_daysOf 17 = .ok (.getfield 15, 3) := by decide +kernel
theorem dX9_daysOf_20 : decode cX9_daysOf 20 = .ok (.iload_n 1, 1) := by decide +kernel
theorem dX9_daysOf_21 : decode cX9_daysOf 21 = .ok (.iaload, 1) := by decide +kernel
theorem dX9_daysOf_22 : decode cX9_daysOf 22 = .ok (.isub, 1) := by decide +kernel
theorem dX9_daysOf_23 : decode cX9_daysOf 23 = .ok (.goto 4, 3) := by decide +kernel
theorem dX9_daysOf_26 : decode cX9_daysOf 26 = .ok (.iconst 0, 1) := by decide +kernel
theorem dX9_daysOf_27 : decode cX9_daysOf 27 = .ok (.ireturn, 1) := by decide +kernel
theorem dX9_meltsFaster_0 : decode cX9_meltsFaster 0 = .ok (.aload_n 0, 1) := by decide +kernel
theorem dX9_meltsFaster_1 : decode cX9_meltsFaster 1 = .ok (.iload_n 1, 1) := by decide +kernel
theorem dX9_meltsFaster_2 : decode cX9_meltsFaster 2 = .ok (.invokevirtual 30, 3) := by decide +kernel
theorem dX9_meltsFaster_5 : decode cX9_meltsFaster 5 = .ok (.i2l, 1) := by decide +kernel
theorem dX9_meltsFaster_6 : decode cX9_meltsFaster 6 = .ok (.aload_n 0, 1) := by decide +kernel
theorem dX9_meltsFaster_7 : decode cX9_meltsFaster 7 = .ok (.iload_n 2, 1) := by decide +kernel
theorem dX9_meltsFaster_8 : decode cX9_meltsFaster 8 = .ok (.invokevirtual 33, 3) := by decide +kernel
theorem dX9_meltsFaster_11 : decode cX9_meltsFaster 11 = .ok (.i2l, 1) := by decide +kernel
theorem dX9_meltsFaster_12 : decode cX9_meltsFaster 12 = .ok (.lmul, 1) := by decide +kernel
theorem dX9_meltsFaster_13 : decode cX9_meltsFaster 13 = .ok (.aload_n 0, 1) := by decide +kernel
theorem dX9_meltsFaster_14 : decode cX9_meltsFaster 14 = .ok (.iload_n 2, 1) := by decide +kernel
theorem dX9_meltsFaster_15 : decode cX9_meltsFaster 15 = .ok (.invokevirtual 30, 3) := by decide +kernel
theorem dX9_meltsFaster_18 : decode cX9_meltsFaster 18 = .ok (.i2l, 1) := by decide +kernel
theorem dX9_meltsFaster_19 : decode cX9_meltsFaster 19 = .ok (.aload_n 0, 1) := by decide +kernel
theorem dX9_meltsFaster_20 : decode cX9_meltsFaster 20 = .ok (.iload_n 1, 1) := by decide +kernel
theorem dX9_meltsFaster_21 : decode cX9_meltsFaster 21 = .ok (.invokevirtual 33, 3) := by decide +kernel
theorem dX9_meltsFaster_24 : decode cX9_meltsFaster 24 = .ok (.i2l, 1) := by decide +kernel
theorem dX9_meltsFaster_25 : decode cX9_meltsFaster 25 = .ok (.lmul, 1) := by decide +kernel
theorem dX9_meltsFaster_26 : decode cX9_meltsFaster 26 = .ok (.lcmp, 1) := by decide +kernel
theorem dX9_meltsFaster_27 : decode cX9_meltsFaster 27 = .ok (.ifCond .le 7, 3) := by decide +kernel
theorem dX9_meltsFaster_30 : decode cX9_meltsFaster 30 = .ok (.iconst 1, 1) := by decide +kernel
theorem dX9_meltsFaster_31 : decode cX9_meltsFaster 31 = .ok (.goto 4, 3) := by decide +kernel
theorem dX9_meltsFaster_34 : decode cX9_meltsFaster 34 = .ok (.iconst 0, 1) := by decide +kernel
theorem dX9_meltsFaster_35 : decode cX9_meltsFaster 35 = .ok (.ireturn, 1) := by decide +kernel
theorem dX9_totalTo_0 : decode cX9_totalTo 0 = .ok (.aload_n 0, 1) := by decide +kernel
theorem dX9_totalTo_1 : decode cX9_totalTo 1 = .ok (.getfield 9, 3) := by decide +kernel
theorem dX9_totalTo_4 : decode cX9_totalTo 4 = .ok (.ifCond .eq 28, 3) := by decide +kernel
theorem dX9_totalTo_7 : decode cX9_totalTo 7 = .ok (.iload_n 1, 1) := by decide +kernel
theorem dX9_totalTo_8 : decode cX9_totalTo 8 = .ok (.aload_n 0, 1) := by decide +kernel
theorem dX9_totalTo_9 : decode cX9_totalTo 9 = .ok (.getfield 15, 3) := by decide +kernel
theorem dX9_totalTo_12 : decode cX9_totalTo 12 = .ok (.iconst 0, 1) := by decide +kernel
theorem dX9_totalTo_13 : decode cX9_totalTo 13 = .ok (.iaload, 1) := by decide +kernel
theorem dX9_totalTo_14 : decode cX9_totalTo 14 = .ok (.if_icmp .lt 18, 3) := by decide +kernel
theorem dX9_totalTo_17 : decode cX9_totalTo 17 = .ok (.iload_n 1, 1) := by decide +kernel
theorem dX9_totalTo_18 : decode cX9_totalTo 18 = .ok (.aload_n 0, 1) := by decide +kernel
theorem dX9_totalTo_19 : decode cX9_totalTo 19 = .ok (.getfield 15, 3) := by decide +kernel
theorem dX9_totalTo_22 : decode cX9_totalTo 22 = .ok (.aload_n 0, 1) := by decide +kernel
theorem dX9_totalTo_23 : decode cX9_totalTo 23 = .ok (.getfield 9, 3) := by decide +kernel
theorem dX9_totalTo_26 : decode cX9_totalTo 26 = .ok (.iconst 1, 1) := by decide +kernel
theorem dX9_totalTo_27 : decode cX9_totalTo 27 = .ok (.isub, 1) := by decide +kernel
theorem dX9_totalTo_28 : decode cX9_totalTo 28 = .ok (.iaload, 1) := by decide +kernel
theorem dX9_totalTo_29 : decode cX9_totalTo 29 = .ok (.if_icmp .le 5, 3) := by decide +kernel
theorem dX9_totalTo_32 : decode cX9_totalTo 32 = .ok (.iconst (-1), 1) := by decide +kernel
theorem dX9_totalTo_33 : decode cX9_totalTo 33 = .ok (.ireturn, 1) := by decide +kernel
theorem dX9_totalTo_34 : decode cX9_totalTo 34 = .ok (.iconst 0, 1) := by decide +kernel
theorem dX9_totalTo_35 : decode cX9_totalTo 35 = .ok (.istore_n 2, 1) := by decide +kernel
theorem dX9_totalTo_36 : decode cX9_totalTo 36 = .ok (.iconst 0, 1) := by decide +kernel
theorem dX9_totalTo_37 : decode cX9_totalTo 37 = .ok (.istore_n 3, 1) := by decide +kernel
theorem dX9_totalTo_38 : decode cX9_totalTo 38 = .ok (.iload_n 3, 1) := by decide +kernel
theorem dX9_totalTo_39 : decode cX9_totalTo 39 = .ok (.aload_n 0, 1) := by decide +kernel
theorem dX9_totalTo_40 : decode cX9_totalTo 40 = .ok (.getfield 9, 3) := by decide +kernel
theorem dX9_totalTo_43 : decode cX9_totalTo 43 = .ok (.iconst 1, 1) := by decide +kernel
theorem dX9_totalTo_44 : decode cX9_totalTo 44 = .ok (.isub, 1) := by decide +kernel
theorem dX9_totalTo_45 : decode cX9_totalTo 45 = .ok (.if_icmp .ge 72, 3) := by decide +kernel
theorem dX9_totalTo_48 : decode cX9_totalTo 48 = .ok (.aload_n 0, 1) := by decide +kernel
theorem dX9_totalTo_49 : decode cX9_totalTo 49 = .ok (.getfield 15, 3) := by decide +kernel
theorem dX9_totalTo_52 : decode cX9_totalTo 52 = .ok (.iload_n 3, 1) := by decide +kernel
theorem dX9_totalTo_53 : decode cX9_totalTo 53 = .ok (.iaload, 1) := by decide +kernel
theorem dX9_totalTo_54 : decode cX9_totalTo 54 = .ok (.iload_n 1, 1) := by decide +kernel
theorem dX9_totalTo_55 : decode cX9_totalTo 55 = .ok (.if_icmp .ge 62, 3) := by decide +kernel
theorem dX9_totalTo_58 : decode cX9_totalTo 58 = .ok (.aload_n 0, 1) := by decide +kernel
theorem dX9_totalTo_59 : decode cX9_totalTo 59 = .ok (.iload_n 3, 1) := by decide +kernel
theorem dX9_totalTo_60 : decode cX9_totalTo 60 = .ok (.invokevirtual 33, 3) := by decide +kernel
theorem dX9_totalTo_63 : decode cX9_totalTo 63 = .ok (.istore 4, 2) := by decide +kernel
theorem dX9_totalTo_65 : decode cX9_totalTo 65 = .ok (.iload_n 1, 1) := by decide +kernel
theorem dX9_totalTo_66 : decode cX9_totalTo 66 = .ok (.aload_n 0, 1) := by decide +kernel
theorem dX9_totalTo_67 : decode cX9_totalTo 67 = .ok (.getfield 15, 3) := by decide +kernel
theorem dX9_totalTo_70 : decode cX9_totalTo 70 = .ok (.iload_n 3, 1) := by decide +kernel
theorem dX9_totalTo_71 : decode cX9_totalTo 71 = .ok (.iaload, 1) := by decide +kernel
theorem dX9_totalTo_72 : decode cX9_totalTo 72 = .ok (.isub, 1) := by decide +kernel
theorem dX9_totalTo_73 : decode cX9_totalTo 73 = .ok (.iload 4, 2) := by decide +kernel
theorem dX9_totalTo_75 : decode cX9_totalTo 75 = .ok (.invokestatic 36, 3) := by decide +kernel
theorem dX9_totalTo_78 : decode cX9_totalTo 78 = .ok (.istore 5, 2) := by decide +kernel
theorem dX9_totalTo_80 : decode cX9_totalTo 80 = .ok (.iload_n 2, 1) := by decide +kernel
theorem dX9_totalTo_81 : decode cX9_totalTo 81 = .ok (.iload 4, 2) := by decide +kernel
theorem dX9_totalTo_83 : decode cX9_totalTo 83 = .ok (.ifCond .le 25, 3) := by decide +kernel
theorem dX9_totalTo_86 : decode cX9_totalTo 86 = .ok (.ldc2_w 42, 3) := by decide +kernel
theorem dX9_totalTo_89 : decode cX9_totalTo 89 = .ok (.aload_n 0, 1) := by decide +kernel
theorem dX9_totalTo_90 : decode cX9_totalTo 90 = .ok (.iload_n 3, 1) := by decide +kernel
theorem dX9_totalTo_91 : decode cX9_totalTo 91 = .ok (.invokevirtual 30, 3) := by decide +kernel
theorem dX9_totalTo_94 : decode cX9_totalTo 94 = .ok (.i2l, 1) := by decide +kernel
theorem dX9_totalTo_95 : decode cX9_totalTo 95 = .ok (.lmul, 1) := by decide +kernel
theorem dX9_totalTo_96 : decode cX9_totalTo 96 = .ok (.iload 5, 2) := by decide +kernel
theorem dX9_totalTo_98 : decode cX9_totalTo 98 = .ok (.i2l, 1) := by decide +kernel
theorem dX9_totalTo_99 : decode cX9_totalTo 99 = .ok (.lmul, 1) := by decide +kernel
theorem dX9_totalTo_100 : decode cX9_totalTo 100 = .ok (.iload 4, 2) := by decide +kernel
theorem dX9_totalTo_102 : decode cX9_totalTo 102 = .ok (.i2l, 1) := by decide +kernel
theorem dX9_totalTo_103 : decode cX9_totalTo 103 = .ok (.ldiv, 1) := by decide +kernel
theorem dX9_totalTo_104 : decode cX9_totalTo 104 = .ok (.l2i, 1) := by decide +kernel
theorem dX9_totalTo_105 : decode cX9_totalTo 105 = .ok (.goto 4, 3) := by decide +kernel
theorem dX9_totalTo_108 : decode cX9_totalTo 108 = .ok (.iconst 0, 1) := by decide +kernel
theorem dX9_totalTo_109 : decode cX9_totalTo 109 = .ok (.iadd, 1) := by decide +kernel
theorem dX9_totalTo_110 : decode cX9_totalTo 110 = .ok (.istore_n 2, 1) := by decide +kernel
theorem dX9_totalTo_111 : decode cX9_totalTo 111 = .ok (.iinc 3 1, 3) := by decide +kernel
theorem dX9_totalTo_114 : decode cX9_totalTo 114 = .ok (.goto (-76), 3) := by decide +kernel
theorem dX9_totalTo_117 : decode cX9_totalTo 117 = .ok (.iload_n 2, 1) := by decide +kernel
theorem dX9_totalTo_118 : decode cX9_totalTo 118 = .ok (.ireturn, 1) := by decide +kernel
theorem dX9_meltBetween_0 : decode cX9_meltBetween 0 = .ok (.iload_n 1, 1) := by decide +kernel
theorem dX9_meltBetween_1 : decode cX9_meltBetween 1 = .ok (.iload_n 2, 1) := by decide +kernel
theorem dX9_meltBetween_2 : decode cX9_meltBetween 2 = .ok (.if_icmp .le 6, 3) := by decide +kernel
theorem dX9_meltBetween_5 : decode cX9_meltBetween 5 = .ok (.bipush (-2), 2) := by decide +kernel
theorem dX9_meltBetween_7 : decode cX9_meltBetween 7 = .ok (.ireturn, 1) := by decide +kernel
theorem dX9_meltBetween_8 : decode cX9_meltBetween 8 = .ok (.aload_n 0, 1) := by decide +kernel
theorem dX9_meltBetween_9 : decode cX9_meltBetween 9 = .ok (.iload_n 1, 1) := by decide +kernel
theorem dX9_meltBetween_10 : decode cX9_meltBetween 10 = .ok (.invokevirtual 44, 3) := by decide +kernel
theorem dX9_meltBetween_13 : decode cX9_meltBetween 13 = .ok (.istore_n 3, 1) := by decide +kernel
theorem dX9_meltBetween_14 : decode cX9_meltBetween 14 = .ok (.aload_n 0, 1) := by decide +kernel
theorem dX9_meltBetween_15 : decode cX9_meltBetween 15 = .ok (.iload_n 2, 1) := by decide +kernel
theorem dX9_meltBetween_16 : decode cX9_meltBetween 16 = .ok (.invokevirtual 44, 3) := by decide +kernel
theorem dX9_meltBetween_19 : decode cX9_meltBetween 19 = .ok (.istore 4, 2) := by decide +kernel
theorem dX9_meltBetween_21 : decode cX9_meltBetween 21 = .ok (.iload_n 3, 1) := by decide +kernel
theorem dX9_meltBetween_22 : decode cX9_meltBetween 22 = .ok (.iconst (-1), 1) := by decide +kernel
theorem dX9_meltBetween_23 : decode cX9_meltBetween 23 = .ok (.if_icmp .eq 9, 3) := by decide +kernel
theorem dX9_meltBetween_26 : decode cX9_meltBetween 26 = .ok (.iload 4, 2) := by decide +kernel
theorem dX9_meltBetween_28 : decode cX9_meltBetween 28 = .ok (.iconst (-1), 1) := by decide +kernel
theorem dX9_meltBetween_29 : decode cX9_meltBetween 29 = .ok (.if_icmp .ne 7, 3) := by decide +kernel
theorem dX9_meltBetween_32 : decode cX9_meltBetween 32 = .ok (.iconst (-1), 1) := by decide +kernel
theorem dX9_meltBetween_33 : decode cX9_meltBetween 33 = .ok (.goto 7, 3) := by decide +kernel
theorem dX9_meltBetween_36 : decode cX9_meltBetween 36 = .ok (.iload 4, 2) := by decide +kernel
theorem dX9_meltBetween_38 : decode cX9_meltBetween 38 = .ok (.iload_n 3, 1) := by decide +kernel
theorem dX9_meltBetween_39 : decode cX9_meltBetween 39 = .ok (.isub, 1) := by decide +kernel
theorem dX9_meltBetween_40 : decode cX9_meltBetween 40 = .ok (.ireturn, 1) := by decide +kernel
theorem dX10_init_0 : decode cX10_init 0 = .ok (.aload_n 0, 1) := by decide +kernel
theorem dX10_init_1 : decode cX10_init 1 = .ok (.invokespecial 3, 3) := by decide +kernel
theorem dX10_init_4 : decode cX10_init 4 = .ok (.aload_n 0, 1) := by decide +kernel
theorem dX10_init_5 : decode cX10_init 5 = .ok (.iconst (-1), 1) := by decide +kernel
theorem dX10_init_6 : decode cX10_init 6 = .ok (.putfield 9, 3) := by decide +kernel
theorem dX10_init_9 : decode cX10_init 9 = .ok (.aload_n 0, 1) := by decide +kernel
theorem dX10_init_10 : decode cX10_init 10 = .ok (.iconst 0, 1) := by decide +kernel
theorem dX10_init_11 : decode cX10_init 11 = .ok (.putfield 15, 3) := by decide +kernel
theorem dX10_init_14 : decode cX10_init 14 = .ok (.aload_n 0, 1) := by decide +kernel
theorem dX10_init_15 : decode cX10_init 15 = .ok (.iconst 0, 1) := by decide +kernel
theorem dX10_init_16 : decode cX10_init 16 = .ok (.putfield 18, 3) := by decide +kernel
theorem dX10_init_19 : decode cX10_init 19 = .ok (.aload_n 0, 1) := by decide +kernel
theorem dX10_init_20 : decode cX10_init 20 = .ok (.iconst 0, 1) := by decide +kernel
theorem dX10_init_21 : decode cX10_init 21 = .ok (.putfield 21, 3) := by decide +kernel
theorem dX10_init_24 : decode cX10_init 24 = .ok (.aload_n 0, 1) := by decide +kernel
theorem dX10_init_25 : decode cX10_init 25 = .ok (.bipush 6, 2) := by decide +kernel
theorem dX10_init_27 : decode cX10_init 27 = .ok (.newarray .int, 2) := by decide +kernel
theorem dX10_init_29 : decode cX10_init 29 = .ok (.putfield 24, 3) := by decide +kernel
theorem dX10_init_32 : decode cX10_init 32 = .ok (.aload_n 0, 1) := by decide +kernel
theorem dX10_init_33 : decode cX10_init 33 = .ok (.bipush 6, 2) := by decide +kernel
theorem dX10_init_35 : decode cX10_init 35 = .ok (.newarray .int, 2) := by decide +kernel
theorem dX10_init_37 : decode cX10_init 37 = .ok (.putfield 28, 3) := by decide +kernel
theorem dX10_init_40 : decode cX10_init 40 = .ok (.aload_n 0, 1) := by decide +kernel
theorem dX10_init_41 : decode cX10_init 41 = .ok (.bipush 6, 2) := by decide +kernel
theorem dX10_init_43 : decode cX10_init 43 = .ok (.newarray .int, 2) := by decide +kernel
theorem dX10_init_45 : decode cX10_init 45 = .ok (.putfield 31, 3) := by decide +kernel
theorem dX10_init_48 : decode cX10_init 48 = .ok (.aload_n 0, 1) := by decide +kernel
theorem dX10_init_49 : decode cX10_init 49 = .ok (.bipush 6, 2) := by decide +kernel
theorem dX10_init_51 : decode cX10_init 51 = .ok (.newarray .int, 2) := by decide +kernel
theorem dX10_init_53 : decode cX10_init 53 = .ok (.putfield 34, 3) := by decide +kernel
theorem dX10_init_56 : decode cX10_init 56 = .ok (.aload_n 0, 1) := by decide +kernel
theorem dX10_init_57 : decode cX10_init 57 = .ok (.bipush 6, 2) := by decide +kernel
theorem dX10_init_59 : decode cX10_init 59 = .ok (.newarray .int, 2) := by decide +kernel
theorem dX10_init_61 : decode cX10_init 61 = .ok (.putfield 37, 3) := by decide +kernel
theorem dX10_init_64 : decode cX10_init 64 = .ok (.aload_n 0, 1) := by decide +kernel
theorem dX10_init_65 : decode cX10_init 65 = .ok (.bipush 6, 2) := by decide +kernel
theorem dX10_init_67 : decode cX10_init 67 = .ok (.newarray .int, 2) := by decide +kernel
theorem dX10_init_69 : decode cX10_init 69 = .ok (.putfield 40, 3) := by decide +kernel
theorem dX10_init_72 : decode cX10_init 72 = .ok (.return_, 1) := by decide +kernel
theorem dX10_trace_0 : decode cX10_trace 0 = .ok (.aload_n 0, 1) := by decide +kernel
theorem dX10_trace_1 : decode cX10_trace 1 = .ok (.iconst 0, 1) := by decide +kernel
theorem dX10_trace_2 : decode cX10_trace 2 = .ok (.putfield 15, 3) := by decide +kernel
theorem dX10_trace_5 : decode cX10_trace 5 = .ok (.aload_n 0, 1) := by decide +kernel
theorem dX10_trace_6 : decode cX10_trace 6 = .ok (.iconst 0, 1) := by decide +kernel
theorem dX10_trace_7 : decode cX10_trace 7 = .ok (.putfield 18, 3) := by decide +kernel
theorem dX10_trace_10 : decode cX10_trace 10 = .ok (.aload_n 0, 1) := by decide +kernel
theorem dX10_trace_11 : decode cX10_trace 11 = .ok (.iconst 0, 1) := by decide +kernel
theorem dX10_trace_12 : decode cX10_trace 12 = .ok (.putfield 21, 3) := by decide +kernel
theorem dX10_trace_15 : decode cX10_trace 15 = .ok (.aload_n 2, 1) := by decide +kernel
theorem dX10_trace_16 : decode cX10_trace 16 = .ok (.getfield 43, 3) := by decide +kernel
theorem dX10_trace_19 : decode cX10_trace 19 = .ok (.istore 6, 2) := by decide +kernel
theorem dX10_trace_21 : decode cX10_trace 21 = .ok (.iload 6, 2) := by decide +kernel
theorem dX10_trace_23 : decode cX10_trace 23 = .ok (.iconst (-1), 1) := by decide +kernel
theorem dX10_trace_24 : decode cX10_trace 24 = .ok (.if_icmp .eq 15, 3) := by decide +kernel
theorem dX10_trace_27 : decode cX10_trace 27 = .ok (.aload_n 1, 1) := by decide +kernel
theorem dX10_trace_28 : decode cX10_trace 28 = .ok (.getfield 48, 3) := by decide +kernel
theorem dX10_trace_31 : decode cX10_trace 31 = .ok (.iload 4, 2) := by decide +kernel
theorem dX10_trace_33 : decode cX10_trace 33 = .ok (.invokevirtual 54, 3) := by decide +kernel
theorem dX10_trace_36 : decode cX10_trace 36 = .ok (.ifCond .ne 4, 3) := by decide +kernel
theorem dX10_trace_39 : decode cX10_trace 39 = .ok (.return_, 1) := by decide +kernel
theorem dX10_trace_40 : decode cX10_trace 40 = .ok (.aload_n 0, 1) := by decide +kernel
theorem dX10_trace_41 : decode cX10_trace 41 = .ok (.aload_n 1, 1) := by decide +kernel
theorem dX10_trace_42 : decode cX10_trace 42 = .ok (.aload_n 2, 1) := by decide +kernel
theorem dX10_trace_43 : decode cX10_trace 43 = .ok (.iload 6, 2) := by decide +kernel
theorem dX10_trace_45 : decode cX10_trace 45 = .ok (.aload_n 1, 1) := by decide +kernel
theorem dX10_trace_46 : decode cX10_trace 46 = .ok (.getfield 48, 3) := by decide +kernel
theorem dX10_trace_49 : decode cX10_trace 49 = .ok (.getfield 60, 3) := by decide +kernel
theorem dX10_trace_52 : decode cX10_trace 52 = .ok (.iload 4, 2) := by decide +kernel
theorem dX10_trace_54 : decode cX10_trace 54 = .ok (.iaload, 1) := by decide +kernel
theorem dX10_trace_55 : decode cX10_trace 55 = .ok (.aload_n 1, 1) := by decide +kernel
theorem dX10_trace_56 : decode cX10_trace 56 = .ok (.getfield 48, 3) := by decide +kernel
theorem dX10_trace_59 : decode cX10_trace 59 = .ok (.getfield 63, 3) := by decide +kernel
theorem dX10_trace_62 : decode cX10_trace 62 = .ok (.iload 4, 2) := by decide +kernel
theorem dX10_trace_64 : decode cX10_trace 64 = .ok (.iaload, 1) := by decide +kernel
theorem dX10_trace_65 : decode cX10_trace 65 = .ok (.invokevirtual 66, 3) := by decide +kernel
theorem dX10_trace_68 : decode cX10_trace 68 = .ok (.iload 5, 2) := by decide +kernel
theorem dX10_trace_70 : decode cX10_trace 70 = .ok (.aload_n 1, 1) := by decide +kernel
theorem dX10_trace_71 : decode cX10_trace 71 = .ok (.invokevirtual 70, 3) := by decide +kernel
theorem dX10_trace_74 : decode cX10_trace 74 = .ok (.imul, 1) := by decide +kernel
theorem dX10_trace_75 : decode cX10_trace 75 = .ok (.istore 7, 2) := by decide +kernel
theorem dX10_trace_77 : decode cX10_trace 77 = .ok (.iload 6, 2) := by decide +kernel
theorem dX10_trace_79 : decode cX10_trace 79 = .ok (.iconst 1, 1) := by decide +kernel
theorem dX10_trace_80 : decode cX10_trace 80 = .ok (.iadd, 1) := by decide +kernel
theorem dX10_trace_81 : decode cX10_trace 81 = .ok (.istore 8, 2) := by decide +kernel
theorem dX10_trace_83 : decode cX10_trace 83 = .ok (.iload 8, 2) := by decide +kernel
theorem dX10_trace_85 : decode cX10_trace 85 = .ok (.aload_n 1, 1) := by decide +kernel
theorem dX10_trace_86 : decode cX10_trace 86 = .ok (.getfield 74, 3) := by decide +kernel
theorem dX10_trace_89 : decode cX10_trace 89 = .ok (.if_icmp .ge 42, 3) := by decide +kernel
theorem dX10_trace_92 : decode cX10_trace 92 = .ok (.aload_n 2, 1) := by decide +kernel
theorem dX10_trace_93 : decode cX10_trace 93 = .ok (.iload 8, 2) := by decide +kernel
theorem dX10_trace_95 : decode cX10_trace 95 = .ok (.invokevirtual 77, 3) := by decide +kernel
theorem dX10_trace_98 : decode cX10_trace 98 = .ok (.ifCond .eq 27, 3) := by decide +kernel
theorem dX10_trace_101 : decode cX10_trace 101 = .ok (.aload_n 0, 1) := by decide +kernel
theorem dX10_trace_102 : decode cX10_trace 102 = .ok (.iload 8, 2) := by decide +kernel
theorem dX10_trace_104 : decode cX10_trace 104 = .ok (.aload_n 1, 1) := by decide +kernel
theorem dX10_trace_105 : decode cX10_trace 105 = .ok (.aload_n 2, 1) := by decide +kernel
theorem dX10_trace_106 : decode cX10_trace 106 = .ok (.aload_n 3, 1) := by decide +kernel
theorem dX10_trace_107 : decode cX10_trace 107 = .ok (.iload 7, 2) := by decide +kernel
theorem dX10_trace_109 : decode cX10_trace 109 = .ok (.invokevirtual 80, 3) := by decide +kernel
theorem dX10_trace_112 : decode cX10_trace 112 = .ok (.ifCond .ne 13, 3) := by decide +kernel
theorem dX10_trace_115 : decode cX10_trace 115 = .ok (.aload_n 0, 1) := by decide +kernel
theorem dX10_trace_116 : decode cX10_trace 116 = .ok (.dup, 1) := by decide +kernel
theorem dX10_trace_117 : decode cX10_trace 117 = .ok (.getfield 18, 3) := by decide +kernel
theorem dX10_trace_120 : decode cX10_trace 120 = .ok (.iconst 1, 1) := by decide +kernel
theorem dX10_trace_121 : decode cX10_trace 121 = .ok (.iadd, 1) := by decide +kernel
theorem dX10_trace_122 : decode cX10_trace 122 = .ok (.putfield 18, 3) := by decide +kernel
theorem dX10_trace_125 : decode cX10_trace 125 = .ok (.iinc 8 1, 3) := by decide +kernel
theorem dX10_trace_128 : decode cX10_trace 128 = .ok (.goto (-45), 3) := by decide +kernel
theorem dX10_trace_131 : decode cX10_trace 131 = .ok (.return_, 1) := by decide +kernel
theorem dX10_findIn_0 : decode cX10_findIn 0 = .ok (.aload_n 0, 1) := by decide +kernel
theorem dX10_findIn_1 : decode cX10_findIn 1 = .ok (.getfield 15, 3) := by decide +kernel
theorem dX10_findIn_4 : decode cX10_findIn 4 = .ok (.iconst 1, 1) := by decide +kernel
theorem dX10_findIn_5 : decode cX10_findIn 5 = .ok (.isub, 1) := by decide +kernel
theorem dX10_findIn_6 : decode cX10_findIn 6 = .ok (.istore 6, 2) := by decide +kernel
theorem dX10_findIn_8 : decode cX10_findIn 8 = .ok (.aload_n 0, 1) := by decide +kernel
theorem dX10_findIn_9 : decode cX10_findIn 9 = .ok (.iload 6, 2) := by decide +kernel
theorem dX10_findIn_11 : decode cX10_findIn 11 = .ok (.invokevirtual 84, 3) := by decide +kernel
theorem dX10_findIn_14 : decode cX10_findIn 14 = .ok (.ifCond .ne 5, 3) := by decide +kernel
theorem dX10_findIn_17 : decode cX10_findIn 17 = .ok (.iconst 0, 1) := by decide +kernel
theorem dX10_findIn_18 : decode cX10_findIn 18 = .ok (.ireturn, 1) := by decide +kernel
theorem dX10_findIn_19 : decode cX10_findIn 19 = .ok (.aload 4, 2) := by decide +kernel
theorem dX10_findIn_21 : decode cX10_findIn 21 = .ok (.aload_n 2, 1) := by decide +kernel
theorem dX10_findIn_22 : decode cX10_findIn 22 = .ok (.aload_n 3, 1) := by decide +kernel
theorem dX10_findIn_23 : decode cX10_findIn 23 = .ok (.aload_n 0, 1) := by decide +kernel
theorem dX10_findIn_24 : decode cX10_findIn 24 = .ok (.getfield 31, 3) := by decide +kernel
theorem dX10_findIn_27 : decode cX10_findIn 27 = .ok (.iload 6, 2) := by decide +kernel
theorem dX10_findIn_29 : decode cX10_findIn 29 = .ok (.iaload, 1) := by decide +kernel
theorem dX10_findIn_30 : decode cX10_findIn 30 = .ok (.aload_n 0, 1) := by decide +kernel
theorem dX10_findIn_31 : decode cX10_findIn 31 = .ok (.getfield 37, 3) := by decide +kernel
theorem dX10_findIn_34 : decode cX10_findIn 34 = .ok (.iload 6, 2) := by decide +kernel
theorem dX10_findIn_36 : decode cX10_findIn 36 = .ok (.iaload, 1) := by decide +kernel
theorem dX10_findIn_37 : decode cX10_findIn 37 = .ok (.aload_n 0, 1) := by decide +kernel
theorem dX10_findIn_38 : decode cX10_findIn 38 = .ok (.getfield 40, 3) := by decide +kernel
theorem dX10_findIn_41 : decode cX10_findIn 41 = .ok (.iload 6, 2) := by decide +kernel
theorem dX10_findIn_43 : decode cX10_findIn 43 = .ok (.iaload, 1) := by decide +kernel
theorem dX10_findIn_44 : decode cX10_findIn 44 = .ok (.iload_n 1, 1) := by decide +kernel
theorem dX10_findIn_45 : decode cX10_findIn 45 = .ok (.invokevirtual 87, 3) := by decide +kernel
theorem dX10_findIn_48 : decode cX10_findIn 48 = .ok (.aload 4, 2) := by decide +kernel
theorem dX10_findIn_50 : decode cX10_findIn 50 = .ok (.invokevirtual 93, 3) := by decide +kernel
theorem dX10_findIn_53 : decode cX10_findIn 53 = .ok (.ifCond .eq 13, 3) := by decide +kernel
theorem dX10_findIn_56 : decode cX10_findIn 56 = .ok (.aload 4, 2) := by decide +kernel
theorem dX10_findIn_58 : decode cX10_findIn 58 = .ok (.getfield 97, 3) := by decide +kernel
theorem dX10_findIn_61 : decode cX10_findIn 61 = .ok (.iload 5, 2) := by decide +kernel
theorem dX10_findIn_63 : decode cX10_findIn 63 = .ok (.if_icmp .le 5, 3) := by decide +kernel
theorem dX10_findIn_66 : decode cX10_findIn 66 = .ok (.iconst 0, 1) := by decide +kernel
theorem dX10_findIn_67 : decode cX10_findIn 67 = .ok (.ireturn, 1) := by decide +kernel
theorem dX10_findIn_68 : decode cX10_findIn 68 = .ok (.aload 4, 2) := by decide +kernel
theorem dX10_findIn_70 : decode cX10_findIn 70 = .ok (.getfield 100, 3) := by decide +kernel
theorem dX10_findIn_73 : decode cX10_findIn 73 = .ok (.istore 7, 2) := by decide +kernel
theorem dX10_findIn_75 : decode cX10_findIn 75 = .ok (.aload 4, 2) := by decide +kernel
theorem dX10_findIn_77 : decode cX10_findIn 77 = .ok (.getfield 102, 3) := by decide +kernel
theorem dX10_findIn_80 : decode cX10_findIn 80 = .ok (.istore 8, 2) := by decide +kernel
theorem dX10_findIn_82 : decode cX10_findIn 82 = .ok (.aload 4, 2) := by decide +kernel
theorem dX10_findIn_84 : decode cX10_findIn 84 = .ok (.getfield 97, 3) := by decide +kernel
theorem dX10_findIn_87 : decode cX10_findIn 87 = .ok (.istore 9, 2) := by decide +kernel
theorem dX10_findIn_89 : decode cX10_findIn 89 = .ok (.aload 4, 2) := by decide +kernel
theorem dX10_findIn_91 : decode cX10_findIn 91 = .ok (.aload_n 2, 1) := by decide +kernel
theorem dX10_findIn_92 : decode cX10_findIn 92 = .ok (.aload_n 3, 1) := by decide +kernel
theorem dX10_findIn_93 : decode cX10_findIn 93 = .ok (.iload_n 1, 1) := by decide +kernel
theorem dX10_findIn_94 : decode cX10_findIn 94 = .ok (.iload 7, 2) := by decide +kernel
theorem dX10_findIn_96 : decode cX10_findIn 96 = .ok (.iload 8, 2) := by decide +kernel
theorem dX10_findIn_98 : decode cX10_findIn 98 = .ok (.aload_n 0, 1) := by decide +kernel
theorem dX10_findIn_99 : decode cX10_findIn 99 = .ok (.getfield 31, 3) := by decide +kernel
theorem dX10_findIn_102 : decode cX10_findIn 102 = .ok (.iload 6, 2) := by decide +kernel
theorem dX10_findIn_104 : decode cX10_findIn 104 = .ok (.iaload, 1) := by decide +kernel
theorem dX10_findIn_105 : decode cX10_findIn 105 = .ok (.invokevirtual 87, 3) := by decide +kernel
theorem dX10_findIn_108 : decode cX10_findIn 108 = .ok (.aload 4, 2) := by decide +kernel
theorem dX10_findIn_110 : decode cX10_findIn 110 = .ok (.invokevirtual 93, 3) := by decide +kernel
theorem dX10_findIn_113 : decode cX10_findIn 113 = .ok (.ifCond .eq 43, 3) := by decide +kernel
theorem dX10_findIn_116 : decode cX10_findIn 116 = .ok (.aload 4, 2) := by decide +kernel
theorem dX10_findIn_118 : decode cX10_findIn 118 = .ok (.getfield 100, 3) := by decide +kernel
theorem dX10_findIn_121 : decode cX10_findIn 121 = .ok (.aload_n 0, 1) := by decide +kernel
theorem dX10_findIn_122 : decode cX10_findIn 122 = .ok (.getfield 37, 3) := by decide +kernel
theorem dX10_findIn_125 : decode cX10_findIn 125 = .ok (.iload 6, 2) := by decide +kernel
theorem dX10_findIn_127 : decode cX10_findIn 127 = .ok (.iaload, 1) := by decide +kernel
theorem dX10_findIn_128 : decode cX10_findIn 128 = .ok (.isub, 1) := by decide +kernel
theorem dX10_findIn_129 : decode cX10_findIn 129 = .ok (.invokestatic 104, 3) := by decide +kernel
theorem dX10_findIn_132 : decode cX10_findIn 132 = .ok (.iconst 1, 1) := by decide +kernel
theorem dX10_findIn_133 : decode cX10_findIn 133 = .ok (.if_icmp .gt 23, 3) := by decide +kernel
theorem dX10_findIn_136 : decode cX10_findIn 136 = .ok (.aload 4, 2) := by decide +kernel
theorem dX10_findIn_138 : decode cX10_findIn 138 = .ok (.getfield 102, 3) := by decide +kernel
theorem dX10_findIn_141 : decode cX10_findIn 141 = .ok (.aload_n 0, 1) := by decide +kernel
theorem dX10_findIn_142 : decode cX10_findIn 142 = .ok (.getfield 40, 3) := by decide +kernel
theorem dX10_findIn_145 : decode cX10_findIn 145 = .ok (.iload 6, 2) := by decide +kernel
theorem dX10_findIn_147 : decode cX10_findIn 147 = .ok (.iaload, 1) := by decide +kernel
theorem dX10_findIn_148 : decode cX10_findIn 148 = .ok (.isub, 1) := by decide +kernel
theorem dX10_findIn_149 : decode cX10_findIn 149 = .ok (.invokestatic 104, 3) := by decide +kernel
theorem dX10_findIn_152 : decode cX10_findIn 152 = .ok (.iconst 1, 1) := by decide +kernel
theorem dX10_findIn_153 : decode cX10_findIn 153 = .ok (.if_icmp .le 5, 3) := by decide +kernel
theorem dX10_findIn_156 : decode cX10_findIn 156 = .ok (.iconst 0, 1) := by decide +kernel
theorem dX10_findIn_157 : decode cX10_findIn 157 = .ok (.ireturn, 1) := by decide +kernel
theorem dX10_findIn_158 : decode cX10_findIn 158 = .ok (.aload_n 0, 1) := by decide +kernel
theorem dX10_findIn_159 : decode cX10_findIn 159 = .ok (.aload_n 0, 1) := by decide +kernel
theorem dX10_findIn_160 : decode cX10_findIn 160 = .ok (.getfield 21, 3) := by decide +kernel
theorem dX10_findIn_163 : decode cX10_findIn 163 = .ok (.iload 9, 2) := by decide +kernel
theorem dX10_findIn_165 : decode cX10_findIn 165 = .ok (.invokestatic 110, 3) := by decide +kernel
theorem dX10_findIn_168 : decode cX10_findIn 168 = .ok (.putfield 21, 3) := by decide +kernel
theorem dX10_findIn_171 : decode cX10_findIn 171 = .ok (.aload_n 0, 1) := by decide +kernel
theorem dX10_findIn_172 : decode cX10_findIn 172 = .ok (.aload_n 2, 1) := by decide +kernel
theorem dX10_findIn_173 : decode cX10_findIn 173 = .ok (.aload_n 3, 1) := by decide +kernel
theorem dX10_findIn_174 : decode cX10_findIn 174 = .ok (.iload_n 1, 1) := by decide +kernel
theorem dX10_findIn_175 : decode cX10_findIn 175 = .ok (.iload 7, 2) := by decide +kernel
theorem dX10_findIn_177 : decode cX10_findIn 177 = .ok (.iload 8, 2) := by decide +kernel
theorem dX10_findIn_179 : decode cX10_findIn 179 = .ok (.invokevirtual 66, 3) := by decide +kernel
theorem dX10_findIn_182 : decode cX10_findIn 182 = .ok (.iconst 1, 1) := by decide +kernel
theorem dX10_findIn_183 : decode cX10_findIn 183 = .ok (.ireturn, 1) := by decide +kernel
theorem dX10_add_0 : decode cX10_add 0 = .ok (.aload_n 0, 1) := by decide +kernel
theorem dX10_add_1 : decode cX10_add 1 = .ok (.getfield 15, 3) := by decide +kernel
theorem dX10_add_4 : decode cX10_add 4 = .ok (.bipush 6, 2) := by decide +kernel
theorem dX10_add_6 : decode cX10_add 6 = .ok (.if_icmp .lt 4, 3) := by decide +kernel
theorem dX10_add_9 : decode cX10_add 9 = .ok (.return_, 1) := by decide +kernel
theorem dX10_add_10 : decode cX10_add 10 = .ok (.aload_n 0, 1) := by decide +kernel
theorem dX10_add_11 : decode cX10_add 11 = .ok (.getfield 31, 3) := by decide +kernel
theorem dX10_add_14 : decode cX10_add 14 = .ok (.aload_n 0, 1) := by decide +kernel
theorem dX10_add_15 : decode cX10_add 15 = .ok (.getfield 15, 3) := by decide +kernel
theorem dX10_add_18 : decode cX10_add 18 = .ok (.iload_n 3, 1) := by decide +kernel
theorem dX10_add_19 : decode cX10_add 19 = .ok (.iastore, 1) := by decide +kernel
theorem dX10_add_20 : decode cX10_add 20 = .ok (.aload_n 0, 1) := by decide +kernel
theorem dX10_add_21 : decode cX10_add 21 = .ok (.getfield 34, 3) := by decide +kernel
theorem dX10_add_24 : decode cX10_add 24 = .ok (.aload_n 0, 1) := by decide +kernel
theorem dX10_add_25 : decode cX10_add 25 = .ok (.getfield 15, 3) := by decide +kernel
theorem dX10_add_28 : decode cX10_add 28 = .ok (.aload_n 1, 1) := by decide +kernel
theorem dX10_add_29 : decode cX10_add 29 = .ok (.iload_n 3, 1) := by decide +kernel
theorem dX10_add_30 : decode cX10_add 30 = .ok (.invokevirtual 114, 3) := by decide +kernel
theorem dX10_add_33 : decode cX10_add 33 = .ok (.iastore, 1) := by decide +kernel
theorem dX10_add_34 : decode cX10_add 34 = .ok (.aload_n 0, 1) := by decide +kernel
theorem dX10_add_35 : decode cX10_add 35 = .ok (.getfield 37, 3) := by decide +kernel
theorem dX10_add_38 : decode cX10_add 38 = .ok (.aload_n 0, 1) := by decide +kernel
theorem dX10_add_39 : decode cX10_add 39 = .ok (.getfield 15, 3) := by decide +kernel
theorem dX10_add_42 : decode cX10_add 42 = .ok (.iload 4, 2) := by decide +kernel
theorem dX10_add_44 : decode cX10_add 44 = .ok (.iastore, 1) := by decide +kernel
theorem dX10_add_45 : decode cX10_add 45 = .ok (.aload_n 0, 1) := by decide +kernel
theorem dX10_add_46 : decode cX10_add 46 = .ok (.getfield 40, 3) := by decide +kernel
theorem dX10_add_49 : decode cX10_add 49 = .ok (.aload_n 0, 1) := by decide +kernel
theorem dX10_add_50 : decode cX10_add 50 = .ok (.getfield 15, 3) := by decide +kernel
theorem dX10_add_53 : decode cX10_add 53 = .ok (.iload 5, 2) := by decide +kernel
theorem dX10_add_55 : decode cX10_add 55 = .ok (.iastore, 1) := by decide +kernel
theorem dX10_add_56 : decode cX10_add 56 = .ok (.aload_n 0, 1) := by decide +kernel
theorem dX10_add_57 : decode cX10_add 57 = .ok (.getfield 24, 3) := by decide +kernel
theorem dX10_add_60 : decode cX10_add 60 = .ok (.aload_n 0, 1) := by decide +kernel
theorem dX10_add_61 : decode cX10_add 61 = .ok (.getfield 15, 3) := by decide +kernel
theorem dX10_add_64 : decode cX10_add 64 = .ok (.iload 4, 2) := by decide +kernel
theorem dX10_add_66 : decode cX10_add 66 = .ok (.aload_n 2, 1) := by decide +kernel
theorem dX10_add_67 : decode cX10_add 67 = .ok (.iload_n 3, 1) := by decide +kernel
theorem dX10_add_68 : decode cX10_add 68 = .ok (.invokevirtual 117, 3) := by decide +kernel
theorem dX10_add_71 : decode cX10_add 71 = .ok (.isub, 1) := by decide +kernel
theorem dX10_add_72 : decode cX10_add 72 = .ok (.iastore, 1) := by decide +kernel
theorem dX10_add_73 : decode cX10_add 73 = .ok (.aload_n 0, 1) := by decide +kernel
theorem dX10_add_74 : decode cX10_add 74 = .ok (.getfield 28, 3) := by decide +kernel
theorem dX10_add_77 : decode cX10_add 77 = .ok (.aload_n 0, 1) := by decide +kernel
theorem dX10_add_78 : decode cX10_add 78 = .ok (.getfield 15, 3) := by decide +kernel
theorem dX10_add_81 : decode cX10_add 81 = .ok (.iload 5, 2) := by decide +kernel
theorem dX10_add_83 : decode cX10_add 83 = .ok (.aload_n 2, 1) := by decide +kernel
theorem dX10_add_84 : decode cX10_add 84 = .ok (.iload_n 3, 1) := by decide +kernel
theorem dX10_add_85 : decode cX10_add 85 = .ok (.invokevirtual 120, 3) := by decide +kernel
theorem dX10_add_88 : decode cX10_add 88 = .ok (.isub, 1) := by decide +kernel
theorem dX10_add_89 : decode cX10_add 89 = .ok (.iastore, 1) := by decide +kernel
theorem dX10_add_90 : decode cX10_add 90 = .ok (.aload_n 0, 1) := by decide +kernel
theorem dX10_add_91 : decode cX10_add 91 = .ok (.dup, 1) := by decide +kernel
theorem dX10_add_92 : decode cX10_add 92 = .ok (.getfield 15, 3) := by decide +kernel
theorem dX10_add_95 : decode cX10_add 95 = .ok (.iconst 1, 1) := by decide +kernel
theorem dX10_add_96 : decode cX10_add 96 = .ok (.iadd, 1) := by decide +kernel
theorem dX10_add_97 : decode cX10_add 97 = .ok (.putfield 15, 3) := by decide +kernel
theorem dX10_add_100 : decode cX10_add 100 = .ok (.return_, 1) := by decide +kernel
theorem dX10_hasEntry_0 : decode cX10_hasEntry 0 = .ok (.iload_n 1, 1) := by decide +kernel
theorem dX10_hasEntry_1 : decode cX10_hasEntry 1 = .ok (.ifCond .lt 15, 3) := by decide +kernel
theorem dX10_hasEntry_4 : decode cX10_hasEntry 4 = .ok (.iload_n 1, 1) := by decide +kernel
theorem dX10_hasEntry_5 : decode cX10_hasEntry 5 = .ok (.aload_n 0, 1) := by decide +kernel
theorem dX10_hasEntry_6 : decode cX10_hasEntry 6 = .ok (.getfield 15, 3) := by decide +kernel
theorem dX10_hasEntry_9 : decode cX10_hasEntry 9 = .ok (.if_icmp .ge 7, 3) := by decide +kernel
theorem dX10_hasEntry_12 : decode cX10_hasEntry 12 = .ok (.iconst 1, 1) := by decide +kernel
theorem dX10_hasEntry_13 : decode cX10_hasEntry 13 = .ok (.goto 4, 3) := by decide +kernel
theorem dX10_hasEntry_16 : decode cX10_hasEntry 16 = .ok (.iconst 0, 1) := by decide +kernel
theorem dX10_hasEntry_17 : decode cX10_hasEntry 17 = .ok (.ireturn, 1) := by decide +kernel
theorem dX10_entryOf_0 : decode cX10_entryOf 0 = .ok (.iconst 0, 1) := by decide +kernel
theorem dX10_entryOf_1 : decode cX10_entryOf 1 = .ok (.istore_n 2, 1) := by decide +kernel
theorem dX10_entryOf_2 : decode cX10_entryOf 2 = .ok (.iload_n 2, 1) := by decide +kernel
theorem dX10_entryOf_3 : decode cX10_entryOf 3 = .ok (.aload_n 0, 1) := by decide +kernel
theorem dX10_entryOf_4 : decode cX10_entryOf 4 = .ok (.getfield 15, 3) := by decide +kernel
theorem dX10_entryOf_7 : decode cX10_entryOf 7 = .ok (.if_icmp .ge 21, 3) := by decide +kernel
theorem dX10_entryOf_10 : decode cX10_entryOf 10 = .ok (.aload_n 0, 1) := by decide +kernel
theorem dX10_entryOf_11 : decode cX10_entryOf 11 = .ok (.getfield 31, 3) := by decide +kernel
theorem dX10_entryOf_14 : decode cX10_entryOf 14 = .ok (.iload_n 2, 1) := by decide +kernel
theorem dX10_entryOf_15 : decode cX10_entryOf 15 = .ok (.iaload, 1) := by decide +kernel
theorem dX10_entryOf_16 : decode cX10_entryOf 16 = .ok (.iload_n 1, 1) := by decide +kernel
theorem dX10_entryOf_17 : decode cX10_entryOf 17 = .ok (.if_icmp .ne 5, 3) := by decide +kernel
theorem dX10_entryOf_20 : decode cX10_entryOf 20 = .ok (.iload_n 2, 1) := by decide +kernel
theorem dX10_entryOf_21 : decode cX10_entryOf 21 = .ok (.ireturn, 1) := by decide +kernel
theorem dX10_entryOf_22 : decode cX10_entryOf 22 = .ok (.iinc 2 1, 3) := by decide +kernel
theorem dX10_entryOf_25 : decode cX10_entryOf 25 = .ok (.goto (-23), 3) := by decide +kernel
theorem dX10_entryOf_28 : decode cX10_entryOf 28 = .ok (.iconst (-1), 1) := by decide +kernel
theorem dX10_entryOf_29 : decode cX10_entryOf 29 = .ok (.ireturn, 1) := by decide +kernel
theorem dX10_isTrackedIn_0 : decode cX10_isTrackedIn 0 = .ok (.aload_n 0, 1) := by decide +kernel
theorem dX10_isTrackedIn_1 : decode cX10_isTrackedIn 1 = .ok (.iload_n 1, 1) := by decide +kernel
theorem dX10_isTrackedIn_2 : decode cX10_isTrackedIn 2 = .ok (.invokevirtual 123, 3) := by decide +kernel
theorem dX10_isTrackedIn_5 : decode cX10_isTrackedIn 5 = .ok (.iconst (-1), 1) := by decide +kernel
theorem dX10_isTrackedIn_6 : decode cX10_isTrackedIn 6 = .ok (.if_icmp .eq 7, 3) := by decide +kernel
theorem dX10_isTrackedIn_9 : decode cX10_isTrackedIn 9 = .ok (.iconst 1, 1) := by decide +kernel
theorem dX10_isTrackedIn_10 : decode cX10_isTrackedIn 10 = .ok (.goto 4, 3) := by decide +kernel
theorem dX10_isTrackedIn_13 : decode cX10_isTrackedIn 13 = .ok (.iconst 0, 1) := by decide +kernel
theorem dX10_isTrackedIn_14 : decode cX10_isTrackedIn 14 = .ok (.ireturn, 1) := by decide +kernel
theorem dX10_columnIn_0 : decode cX10_columnIn 0 = .ok (.aload_n 0, 1) := by decide +kernel
theorem dX10_columnIn_1 : decode cX10_columnIn 1 = .ok (.iload_n 1, 1) := by decide +kernel
theorem dX10_columnIn_2 : decode cX10_columnIn 2 = .ok (.invokevirtual 123, 3) := by decide +kernel
theorem dX10_columnIn_5 : decode cX10_columnIn 5 = .ok (.istore_n 2, 1) := by decide +kernel
theorem dX10_columnIn_6 : decode cX10_columnIn 6 = .ok (.iload_n 2, 1) := by decide +kernel
theorem dX10_columnIn_7 : decode cX10_columnIn 7 = .ok (.iconst (-1), 1) := by decide +kernel
theorem dX10_columnIn_8 : decode cX10_columnIn 8 = .ok (.if_icmp .ne 7, 3) := by decide +kernel
theorem dX10_columnIn_11 : decode cX10_columnIn 11 = .ok (.iconst (-1), 1) := by decide +kernel
theorem dX10_columnIn_12 : decode cX10_columnIn 12 = .ok (.goto 9, 3) := by decide +kernel
theorem dX10_columnIn_15 : decode cX10_columnIn 15 = .ok (.aload_n 0, 1) := by decide +kernel
theorem dX10_columnIn_16 : decode cX10_columnIn 16 = .ok (.getfield 37, 3) := by decide +kernel
theorem dX10_columnIn_19 : decode cX10_columnIn 19 = .ok (.iload_n 2, 1) := by decide +kernel
theorem dX10_columnIn_20 : decode cX10_columnIn 20 = .ok (.iaload, 1) := by decide +kernel
theorem dX10_columnIn_21 : decode cX10_columnIn 21 = .ok (.ireturn, 1) := by decide +kernel
theorem dX10_rowIn_0 : decode cX10_rowIn 0 = .ok (.aload_n 0, 1) := by decide +kernel
theorem dX10_rowIn_1 : decode cX10_rowIn 1 = .ok (.iload_n 1, 1) := by decide +kernel
theorem dX10_rowIn_2 : decode cX10_rowIn 2 = .ok (.invokevirtual 123, 3) := by decide +kernel
theorem dX10_rowIn_5 : decode cX10_rowIn 5 = .ok (.istore_n 2, 1) := by decide +kernel
theorem dX10_rowIn_6 : decode cX10_rowIn 6 = .ok (.iload_n 2, 1) := by decide +kernel
theorem dX10_rowIn_7 : decode cX10_rowIn 7 = .ok (.iconst (-1), 1) := by decide +kernel
theorem dX10_rowIn_8 : decode cX10_rowIn 8 = .ok (.if_icmp .ne 7, 3) := by decide +kernel
theorem dX10_rowIn_11 : decode cX10_rowIn 11 = .ok (.iconst (-1), 1) := by decide +kernel
theorem dX10_rowIn_12 : decode cX10_rowIn 12 = .ok (.goto 9, 3) := by decide +kernel
theorem dX10_rowIn_15 : decode cX10_rowIn 15 = .ok (.aload_n 0, 1) := by decide +kernel
theorem dX10_rowIn_16 : decode cX10_rowIn 16 = .ok (.getfield 40, 3) := by decide +kernel
theorem dX10_rowIn_19 : decode cX10_rowIn 19 = .ok (.iload_n 2, 1) := by decide +kernel
theorem dX10_rowIn_20 : decode cX10_rowIn 20 = .ok (.iaload, 1) := by decide +kernel
theorem dX10_rowIn_21 : decode cX10_rowIn 21 = .ok (.ireturn, 1) := by decide +kernel
theorem dX10_dayOf_0 : decode cX10_dayOf 0 = .ok (.aload_n 0, 1) := by decide +kernel
theorem dX10_dayOf_1 : decode cX10_dayOf 1 = .ok (.iload_n 1, 1) := by decide +kernel
theorem dX10_dayOf_2 : decode cX10_dayOf 2 = .ok (.invokevirtual 84, 3) := by decide +kernel
theorem dX10_dayOf_5 : decode cX10_dayOf 5 = .ok (.ifCond .eq 12, 3) := by decide +kernel
theorem dX10_dayOf_8 : decode cX10_dayOf 8 = .ok (.aload_n 0, 1) := by decide +kernel
theorem dX10_dayOf_9 : decode cX10_dayOf 9 = .ok (.getfield 34, 3) := by decide +kernel
theorem dX10_dayOf_12 : decode cX10_dayOf 12 = .ok (.iload_n 1, 1) := by decide +kernel
theorem dX10_dayOf_13 : decode cX10_dayOf 13 = .ok (.iaload, 1) := by decide +kernel
theorem dX10_dayOf_14 : decode cX10_dayOf 14 = .ok (.goto 4, 3) := by decide +kernel
theorem dX10_dayOf_17 : decode cX10_dayOf 17 = .ok (.iconst (-1), 1) := by decide +kernel
theorem dX10_dayOf_18 : decode cX10_dayOf 18 = .ok (.ireturn, 1) := by decide +kernel
theorem dX10_segments_0 : decode cX10_segments 0 = .ok (.aload_n 0, 1) := by decide +kernel
theorem dX10_segments_1 : decode cX10_segments 1 = .ok (.getfield 15, 3) := by decide +kernel
theorem dX10_segments_4 : decode cX10_segments 4 = .ok (.iconst 1, 1) := by decide +kernel
theorem dX10_segments_5 : decode cX10_segments 5 = .ok (.isub, 1) := by decide +kernel
theorem dX10_segments_6 : decode cX10_segments 6 = .ok (.iconst 0, 1) := by decide +kernel
theorem dX10_segments_7 : decode cX10_segments 7 = .ok (.invokestatic 110, 3) := by decide +kernel
theorem dX10_segments_10 : decode cX10_segments 10 = .ok (.ireturn, 1) := by decide +kernel
theorem dX10_hasSegment_0 : decode cX10_hasSegment 0 = .ok (.iload_n 1, 1) := by decide +kernel
theorem dX10_hasSegment_1 : decode cX10_hasSegment 1 = .ok (.ifCond .lt 17, 3) := by decide +kernel
theorem dX10_hasSegment_4 : decode cX10_hasSegment 4 = .ok (.iload_n 1, 1) := by decide +kernel
theorem dX10_hasSegment_5 : decode cX10_hasSegment 5 = .ok (.aload_n 0, 1) := by decide +kernel
theorem dX10_hasSegment_6 : decode cX10_hasSegment 6 = .ok (.getfield 15, 3) := by decide +kernel
theorem dX10_hasSegment_9 : decode cX10_hasSegment 9 = .ok (.iconst 1, 1) := by decide +kernel
theorem dX10_hasSegment_10 : decode cX10_hasSegment 10 = .ok (.isub, 1) := by decide +kernel
theorem dX10_hasSegment_11 : decode cX10_hasSegment 11 = .ok (.if_icmp .ge 7, 3) := by decide +kernel
theorem dX10_hasSegment_14 : decode cX10_hasSegment 14 = .ok (.iconst 1, 1) := by decide +kernel
theorem dX10_hasSegment_15 : decode cX10_hasSegment 15 = .ok (.goto 4, 3) := by decide +kernel
theorem dX10_hasSegment_18 : decode cX10_hasSegment 18 = .ok (.iconst 0, 1) := by decide +kernel
theorem dX10_hasSegment_19 : decode cX10_hasSegment 19 = .ok (.ireturn, 1) := by decide +kernel
theorem dX10_lengthOf_0 : decode cX10_lengthOf 0 = .ok (.aload_n 0, 1) := by decide +kernel
theorem dX10_lengthOf_1 : decode cX10_lengthOf 1 = .ok (.iload_n 1, 1) := by decide +kernel
theorem dX10_lengthOf_2 : decode cX10_lengthOf 2 = .ok (.invokevirtual 126, 3) := by decide +kernel
theorem dX10_lengthOf_5 : decode cX10_lengthOf 5 = .ok (.ifCond .ne 5, 3) := by decide +kernel
theorem dX10_lengthOf_8 : decode cX10_lengthOf 8 = .ok (.iconst 0, 1) := by decide +kernel
theorem dX10_lengthOf_9 : decode cX10_lengthOf 9 = .ok (.ireturn, 1) := by decide +kernel
theorem dX10_lengthOf_10 : decode cX10_lengthOf 10 = .ok (.aload_n 0, 1) := by decide +kernel
theorem dX10_lengthOf_11 : decode cX10_lengthOf 11 = .ok (.getfield 24, 3) := by decide +kernel
theorem dX10_lengthOf_14 : decode cX10_lengthOf 14 = .ok (.iload_n 1, 1) := by decide +kernel
theorem dX10_lengthOf_15 : decode cX10_lengthOf 15 = .ok (.iconst 1, 1) := by decide +kernel
theorem dX10_lengthOf_16 : decode cX10_lengthOf 16 = .ok (.iadd, 1) := by decide +kernel
theorem dX10_lengthOf_17 : decode cX10_lengthOf 17 = .ok (.iaload, 1) := by decide +kernel
theorem dX10_lengthOf_18 : decode cX10_lengthOf 18 = .ok (.aload_n 0, 1) := by decide +kernel
theorem dX10_lengthOf_19 : decode cX10_lengthOf 19 = .ok (.getfield 24, 3) := by decide +kernel
theorem dX10_lengthOf_22 : decode cX10_lengthOf 22 = .ok (.iload_n 1, 1) := by decide +kernel
theorem dX10_lengthOf_23 : decode cX10_lengthOf 23 = .ok (.iaload, 1) := by decide +kernel
theorem dX10_lengthOf_24 : decode cX10_lengthOf 24 = .ok (.isub, 1) := by decide +kernel
theorem dX10_lengthOf_25 : decode cX10_lengthOf 25 = .ok (.i2l, 1) := by decide +kernel
theorem dX10_lengthOf_26 : decode cX10_lengthOf 26 = .ok (.lstore_n 3, 1) := by decide +kernel
theorem dX10_lengthOf_27 : decode cX10_lengthOf 27 = .ok (.aload_n 0, 1) := by decide +kernel
theorem dX10_lengthOf_28 : decode cX10_lengthOf 28 = .ok (.getfield 28, 3) := by decide +kernel
theorem dX10_lengthOf_31 : decode cX10_lengthOf 31 = .ok (.iload_n 1, 1) := by decide +kernel
theorem dX10_lengthOf_32 : decode cX10_lengthOf 32 = .ok (.iconst 1, 1) := by decide +kernel
theorem dX10_lengthOf_33 : decode cX10_lengthOf 33 = .ok (.iadd, 1) := by decide +kernel
theorem dX10_lengthOf_34 : decode cX10_lengthOf 34 = .ok (.iaload, 1) := by decide +kernel
theorem dX10_lengthOf_35 : decode cX10_lengthOf 35 = .ok (.aload_n 0, 1) := by decide +kernel
theorem dX10_lengthOf_36 : decode cX10_lengthOf 36 = .ok (.getfield 28, 3) := by decide +kernel
theorem dX10_lengthOf_39 : decode cX10_lengthOf 39 = .ok (.iload_n 1, 1) := by decide +kernel
theorem dX10_lengthOf_40 : decode cX10_lengthOf 40 = .ok (.iaload, 1) := by decide +kernel
theorem dX10_lengthOf_41 : decode cX10_lengthOf 41 = .ok (.isub, 1) := by decide +kernel
theorem dX10_lengthOf_42 : decode cX10_lengthOf 42 = .ok (.i2l, 1) := by decide +kernel
theorem dX10_lengthOf_43 : decode cX10_lengthOf 43 = .ok (.lstore 5, 2) := by decide +kernel
theorem dX10_lengthOf_45 : decode cX10_lengthOf 45 = .ok (.lload_n 3, 1) := by decide +kernel
theorem dX10_lengthOf_46 : decode cX10_lengthOf 46 = .ok (.lload_n 3, 1) := by decide +kernel
theorem dX10_lengthOf_47 : decode cX10_lengthOf 47 = .ok (.lmul, 1) := by decide +kernel
theorem dX10_lengthOf_48 : decode cX10_lengthOf 48 = .ok (.lload 5, 2) := by decide +kernel
theorem dX10_lengthOf_50 : decode cX10_lengthOf 50 = .ok (.lload 5, 2) := by decide +kernel
theorem dX10_lengthOf_52 : decode cX10_lengthOf 52 = .ok (.lmul, 1) := by decide +kernel
theorem dX10_lengthOf_53 : decode cX10_lengthOf 53 = .ok (.ladd, 1) := by decide +kernel
theorem dX10_lengthOf_54 : decode cX10_lengthOf 54 = .ok (.iload_n 2, 1) := by decide +kernel
theorem dX10_lengthOf_55 : decode cX10_lengthOf 55 = .ok (.i2l, 1) := by decide +kernel
theorem dX10_lengthOf_56 : decode cX10_lengthOf 56 = .ok (.lmul, 1) := by decide +kernel
theorem dX10_lengthOf_57 : decode cX10_lengthOf 57 = .ok (.iload_n 2, 1) := by decide +kernel
theorem dX10_lengthOf_58 : decode cX10_lengthOf 58 = .ok (.i2l, 1) := by decide +kernel
theorem dX10_lengthOf_59 : decode cX10_lengthOf 59 = .ok (.lmul, 1) := by decide +kernel
theorem dX10_lengthOf_60 : decode cX10_lengthOf 60 = .ok (.invokestatic 129, 3) := by decide +kernel
theorem dX10_lengthOf_63 : decode cX10_lengthOf 63 = .ok (.ireturn, 1) := by decide +kernel
theorem dX10_speedOf_0 : decode cX10_speedOf 0 = .ok (.aload_n 0, 1) := by decide +kernel
theorem dX10_speedOf_1 : decode cX10_speedOf 1 = .ok (.iload_n 1, 1) := by decide +kernel
theorem dX10_speedOf_2 : decode cX10_speedOf 2 = .ok (.iload_n 2, 1) := by decide +kernel
theorem dX10_speedOf_3 : decode cX10_speedOf 3 = .ok (.invokevirtual 133, 3) := by decide +kernel
theorem dX10_speedOf_6 : decode cX10_speedOf 6 = .ok (.aload_n 0, 1) := by decide +kernel
theorem dX10_speedOf_7 : decode cX10_speedOf 7 = .ok (.iload_n 1, 1) := by decide +kernel
theorem dX10_speedOf_8 : decode cX10_speedOf 8 = .ok (.iconst 1, 1) := by decide +kernel
theorem dX10_speedOf_9 : decode cX10_speedOf 9 = .ok (.iadd, 1) := by decide +kernel
theorem dX10_speedOf_10 : decode cX10_speedOf 10 = .ok (.invokevirtual 136, 3) := by decide +kernel
theorem dX10_speedOf_13 : decode cX10_speedOf 13 = .ok (.aload_n 0, 1) := by decide +kernel
theorem dX10_speedOf_14 : decode cX10_speedOf 14 = .ok (.iload_n 1, 1) := by decide +kernel
theorem dX10_speedOf_15 : decode cX10_speedOf 15 = .ok (.invokevirtual 136, 3) := by decide +kernel
theorem dX10_speedOf_18 : decode cX10_speedOf 18 = .ok (.isub, 1) := by decide +kernel
theorem dX10_speedOf_19 : decode cX10_speedOf 19 = .ok (.invokestatic 137, 3) := by decide +kernel
theorem dX10_speedOf_22 : decode cX10_speedOf 22 = .ok (.ireturn, 1) := by decide +kernel
theorem dX10_averageSpeed_0 : decode cX10_averageSpeed 0 = .ok (.iconst 0, 1) := by decide +kernel
theorem dX10_averageSpeed_1 : decode cX10_averageSpeed 1 = .ok (.istore_n 2, 1) := by decide +kernel
theorem dX10_averageSpeed_2 : decode cX10_averageSpeed 2 = .ok (.iconst 0, 1) := by decide +kernel
theorem dX10_averageSpeed_3 : decode cX10_averageSpeed 3 = .ok (.istore_n 3, 1) := by decide +kernel
theorem dX10_averageSpeed_4 : decode cX10_averageSpeed 4 = .ok (.iload_n 3, 1) := by decide +kernel
theorem dX10_averageSpeed_5 : decode cX10_averageSpeed 5 = .ok (.aload_n 0, 1) := by decide +kernel
theorem dX10_averageSpeed_6 : decode cX10_averageSpeed 6 = .ok (.invokevirtual 140, 3) := by decide +kernel
theorem dX10_averageSpeed_9 : decode cX10_averageSpeed 9 = .ok (.if_icmp .ge 18, 3) := by decide +kernel
theorem dX10_averageSpeed_12 : decode cX10_averageSpeed 12 = .ok (.iload_n 2, 1) := by decide +kernel
theorem dX10_averageSpeed_13 : decode cX10_averageSpeed 13 = .ok (.aload_n 0, 1) := by decide +kernel
theorem dX10_averageSpeed_14 : decode cX10_averageSpeed 14 = .ok (.iload_n 3, 1) := by decide +kernel
theorem dX10_averageSpeed_15 : decode cX10_averageSpeed 15 = .ok (.iload_n 1, 1) := by decide +kernel
theorem dX10_averageSpeed_16 : decode cX10_averageSpeed 16 = .ok (.invokevirtual 133, 3) := by decide +kernel
theorem dX10_averageSpeed_19 : decode cX10_averageSpeed 19 = .ok (.iadd, 1) := by decide +kernel
theorem dX10_averageSpeed_20 : decode cX10_averageSpeed 20 = .ok (.istore_n 2, 1) := by decide +kernel
theorem dX10_averageSpeed_21 : decode cX10_averageSpeed 21 = .ok (.iinc 3 1, 3) := by decide +kernel
theorem dX10_averageSpeed_24 : decode cX10_averageSpeed 24 = .ok (.goto (-20), 3) := by decide +kernel
theorem dX10_averageSpeed_27 : decode cX10_averageSpeed 27 = .ok (.iload_n 2, 1) := by decide +kernel
theorem dX10_averageSpeed_28 : decode cX10_averageSpeed 28 = .ok (.aload_n 0, 1) := by decide +kernel
theorem dX10_averageSpeed_29 : decode cX10_averageSpeed 29 = .ok (.aload_n 0, 1) := by decide +kernel
theorem dX10_averageSpeed_30 : decode cX10_averageSpeed 30 = .ok (.getfield 15, 3) := by decide +kernel
theorem dX10_averageSpeed_33 : decode cX10_averageSpeed 33 = .ok (.iconst 1, 1) := by decide +kernel
theorem dX10_averageSpeed_34 : decode cX10_averageSpeed 34 = .ok (.isub, 1) := by decide +kernel
theorem dX10_averageSpeed_35 : decode cX10_averageSpeed 35 = .ok (.invokevirtual 136, 3) := by decide +kernel
theorem dX10_averageSpeed_38 : decode cX10_averageSpeed 38 = .ok (.aload_n 0, 1) := by decide +kernel
theorem dX10_averageSpeed_39 : decode cX10_averageSpeed 39 = .ok (.iconst 0, 1) := by decide +kernel
theorem dX10_averageSpeed_40 : decode cX10_averageSpeed 40 = .ok (.invokevirtual 136, 3) := by decide +kernel
theorem dX10_averageSpeed_43 : decode cX10_averageSpeed 43 = .ok (.isub, 1) := by decide +kernel
theorem dX10_averageSpeed_44 : decode cX10_averageSpeed 44 = .ok (.invokestatic 137, 3) := by decide +kernel
theorem dX10_averageSpeed_47 : decode cX10_averageSpeed 47 = .ok (.ireturn, 1) := by decide +kernel
theorem dX10_isFast_0 : decode cX10_isFast 0 = .ok (.aload_n 0, 1) := by decide +kernel
theorem dX10_isFast_1 : decode cX10_isFast 1 = .ok (.iload_n 1, 1) := by decide +kernel
theorem dX10_isFast_2 : decode cX10_isFast 2 = .ok (.invokevirtual 126, 3) := by decide +kernel
theorem dX10_isFast_5 : decode cX10_isFast 5 = .ok (.ifCond .eq 17, 3) := by decide +kernel
theorem dX10_isFast_8 : decode cX10_isFast 8 = .ok (.aload_n 0, 1) := by decide +kernel
theorem dX10_isFast_9 : decode cX10_isFast 9 = .ok (.iload_n 1, 1) := by decide +kernel
theorem dX10_isFast_10 : decode cX10_isFast 10 = .ok (.iload_n 2, 1) := by decide +kernel
theorem dX10_isFast_11 : decode cX10_isFast 11 = .ok (.invokevirtual 143, 3) := by decide +kernel
theorem dX10_isFast_14 : decode cX10_isFast 14 = .ok (.iload_n 3, 1) := by decide +kernel
theorem dX10_isFast_15 : decode cX10_isFast 15 = .ok (.if_icmp .lt 7, 3) := by decide +kernel
theorem dX10_isFast_18 : decode cX10_isFast 18 = .ok (.iconst 1, 1) := by decide +kernel
theorem dX10_isFast_19 : decode cX10_isFast 19 = .ok (.goto 4, 3) := by decide +kernel
theorem dX10_isFast_22 : decode cX10_isFast 22 = .ok (.iconst 0, 1) := by decide +kernel
theorem dX10_isFast_23 : decode cX10_isFast 23 = .ok (.ireturn, 1) := by decide +kernel
theorem dX10_beginsSurge_0 : decode cX10_beginsSurge 0 = .ok (.aload_n 0, 1) := by decide +kernel
theorem dX10_beginsSurge_1 : decode cX10_beginsSurge 1 = .ok (.iload_n 1, 1) := by decide +kernel
theorem dX10_beginsSurge_2 : decode cX10_beginsSurge 2 = .ok (.iload_n 2, 1) := by decide +kernel
theorem dX10_beginsSurge_3 : decode cX10_beginsSurge 3 = .ok (.iload_n 3, 1) := by decide +kernel
theorem dX10_beginsSurge_4 : decode cX10_beginsSurge 4 = .ok (.invokevirtual 146, 3) := by decide +kernel
theorem dX10_beginsSurge_7 : decode cX10_beginsSurge 7 = .ok (.ifCond .eq 19, 3) := by decide +kernel
theorem dX10_beginsSurge_10 : decode cX10_beginsSurge 10 = .ok (.aload_n 0, 1) := by decide +kernel
theorem dX10_beginsSurge_11 : decode cX10_beginsSurge 11 = .ok (.iload_n 1, 1) := by decide +kernel
theorem dX10_beginsSurge_12 : decode cX10_beginsSurge 12 = .ok (.iconst 1, 1) := by decide +kernel
theorem dX10_beginsSurge_13 : decode cX10_beginsSurge 13 = .ok (.isub, 1) := by decide +kernel
theorem dX10_beginsSurge_14 : decode cX10_beginsSurge 14 = .ok (.iload_n 2, 1) := by decide +kernel
theorem dX10_beginsSurge_15 : decode cX10_beginsSurge 15 = .ok (.iload_n 3, 1) := by decide +kernel
theorem dX10_beginsSurge_16 : decode cX10_beginsSurge 16 = .ok (.invokevirtual 146, 3) := by decide +kernel
theorem dX10_beginsSurge_19 : decode cX10_beginsSurge 19 = .ok (.ifCond .ne 7, 3) := by decide +kernel
theorem dX10_beginsSurge_22 : decode cX10_beginsSurge 22 = .ok (.iconst 1, 1) := by decide +kernel
theorem dX10_beginsSurge_23 : decode cX10_beginsSurge 23 = .ok (.goto 4, 3) := by decide +kernel
theorem dX10_beginsSurge_26 : decode cX10_beginsSurge 26 = .ok (.iconst 0, 1) := by decide +kernel
theorem dX10_beginsSurge_27 : decode cX10_beginsSurge 27 = .ok (.ireturn, 1) := by decide +kernel
theorem dX10_surges_0 : decode cX10_surges 0 = .ok (.iconst 0, 1) := by decide +kernel
theorem dX10_surges_1 : decode cX10_surges 1 = .ok (.istore_n 3, 1) := by decide +kernel
theorem dX10_surges_2 : decode cX10_surges 2 = .ok (.iconst 0, 1) := by decide +kernel
theorem dX10_surges_3 : decode cX10_surges 3 = .ok (.istore 4, 2) := by decide +kernel
theorem dX10_surges_5 : decode cX10_surges 5 = .ok (.iload 4, 2) := by decide +kernel
theorem dX10_surges_7 : decode cX10_surges 7 = .ok (.aload_n 0, 1) := by decide +kernel
theorem dX10_surges_8 : decode cX10_surges 8 = .ok (.invokevirtual 140, 3) := by decide +kernel
theorem dX10_surges_11 : decode cX10_surges 11 = .ok (.if_icmp .ge 23, 3) := by decide +kernel
theorem dX10_surges_14 : decode cX10_surges 14 = .ok (.aload_n 0, 1) := by decide +kernel
theorem dX10_surges_15 : decode cX10_surges 15 = .ok (.iload 4, 2) := by decide +kernel
theorem dX10_surges_17 : decode cX10_surges 17 = .ok (.iload_n 1, 1) := by decide +kernel
theorem dX10_surges_18 : decode cX10_surges 18 = .ok (.iload_n 2, 1) := by decide +kernel
theorem dX10_surges_19 : decode cX10_surges 19 = .ok (.invokevirtual 150, 3) := by decide +kernel
theorem dX10_surges_22 : decode cX10_surges 22 = .ok (.ifCond .eq 6, 3) := by decide +kernel
theorem dX10_surges_25 : decode cX10_surges 25 = .ok (.iinc 3 1, 3) := by decide +kernel
theorem dX10_surges_28 : decode cX10_surges 28 = .ok (.iinc 4 1, 3) := by decide +kernel
theorem dX10_surges_31 : decode cX10_surges 31 = .ok (.goto (-26), 3) := by decide +kernel
theorem dX10_surges_34 : decode cX10_surges 34 = .ok (.iload_n 3, 1) := by decide +kernel
theorem dX10_surges_35 : decode cX10_surges 35 = .ok (.ireturn, 1) := by decide +kernel
theorem dX10_surgeBegin_0 : decode cX10_surgeBegin 0 = .ok (.iconst 0, 1) := by decide +kernel
theorem dX10_surgeBegin_1 : decode cX10_surgeBegin 1 = .ok (.istore 4, 2) := by decide +kernel
theorem dX10_surgeBegin_3 : decode cX10_surgeBegin 3 = .ok (.iconst 0, 1) := by decide +kernel
theorem dX10_surgeBegin_4 : decode cX10_surgeBegin 4 = .ok (.istore 5, 2) := by decide +kernel
theorem dX10_surgeBegin_6 : decode cX10_surgeBegin 6 = .ok (.iload 5, 2) := by decide +kernel
theorem dX10_surgeBegin_8 : decode cX10_surgeBegin 8 = .ok (.aload_n 0, 1) := by decide +kernel
theorem dX10_surgeBegin_9 : decode cX10_surgeBegin 9 = .ok (.invokevirtual 140, 3) := by decide +kernel
theorem dX10_surgeBegin_12 : decode cX10_surgeBegin 12 = .ok (.if_icmp .ge 32, 3) := by decide +kernel
theorem dX10_surgeBegin_15 : decode cX10_surgeBegin 15 = .ok (.aload_n 0, 1) := by decide +kernel
theorem dX10_surgeBegin_16 : decode cX10_surgeBegin 16 = .ok (.iload 5, 2) := by decide +kernel
theorem dX10_surgeBegin_18 : decode cX10_surgeBegin 18 = .ok (.iload_n 2, 1) := by decide +kernel
theorem dX10_surgeBegin_19 : decode cX10_surgeBegin 19 = .ok (.iload_n 3, 1) := by decide +kernel
theorem dX10_surgeBegin_20 : decode cX10_surgeBegin 20 = .ok (.invokevirtual 150, 3) := by decide +kernel
theorem dX10_surgeBegin_23 : decode cX10_surgeBegin 23 = .ok (.ifCond .eq 15, 3) := by decide +kernel
theorem dX10_surgeBegin_26 : decode cX10_surgeBegin 26 = .ok (.iload 4, 2) := by decide +kernel
theorem dX10_surgeBegin_28 : decode cX10_surgeBegin 28 = .ok (.iload_n 1, 1) := by decide +kernel
theorem dX10_surgeBegin_29 : decode cX10_surgeBegin 29 = .ok (.if_icmp .ne 6, 3) := by decide +kernel
theorem dX10_surgeBegin_32 : decode cX10_surgeBegin 32 = .ok (.iload 5, 2) := by decide +kernel
theorem dX10_surgeBegin_34 : decode cX10_surgeBegin 34 = .ok (.ireturn, 1) := by decide +kernel
theorem dX10_surgeBegin_35 : decode cX10_surgeBegin 35 = .ok (.iinc 4 1, 3) := by decide +kernel
theorem dX10_surgeBegin_38 : decode cX10_surgeBegin 38 = .ok (.iinc 5 1, 3) := by decide +kernel
theorem dX10_surgeBegin_41 : decode cX10_surgeBegin 41 = .ok (.goto (-35), 3) := by decide +kernel
theorem dX10_surgeBegin_44 : decode cX10_surgeBegin 44 = .ok (.iconst (-1), 1) := by decide +kernel
theorem dX10_surgeBegin_45 : decode cX10_surgeBegin 45 = .ok (.ireturn, 1) := by decide +kernel
theorem dX10_surgeEnd_0 : decode cX10_surgeEnd 0 = .ok (.iload_n 1, 1) := by decide +kernel
theorem dX10_surgeEnd_1 : decode cX10_surgeEnd 1 = .ok (.istore 4, 2) := by decide +kernel
theorem dX10_surgeEnd_3 : decode cX10_surgeEnd 3 = .ok (.iload 4, 2) := by decide +kernel
theorem dX10_surgeEnd_5 : decode cX10_surgeEnd 5 = .ok (.aload_n 0, 1) := by decide +kernel
theorem dX10_surgeEnd_6 : decode cX10_surgeEnd 6 = .ok (.invokevirtual 140, 3) := by decide +kernel
theorem dX10_surgeEnd_9 : decode cX10_surgeEnd 9 = .ok (.if_icmp .ge 20, 3) := by decide +kernel
theorem dX10_surgeEnd_12 : decode cX10_surgeEnd 12 = .ok (.aload_n 0, 1) := by decide +kernel
theorem dX10_surgeEnd_13 : decode cX10_surgeEnd 13 = .ok (.iload 4, 2) := by decide +kernel
theorem dX10_surgeEnd_15 : decode cX10_surgeEnd 15 = .ok (.iload_n 2, 1) := by decide +kernel
theorem dX10_surgeEnd_16 : decode cX10_surgeEnd 16 = .ok (.iload_n 3, 1) := by decide +kernel
theorem dX10_surgeEnd_17 : decode cX10_surgeEnd 17 = .ok (.invokevirtual 146, 3) := by decide +kernel
theorem dX10_surgeEnd_20 : decode cX10_surgeEnd 20 = .ok (.ifCond .eq 9, 3) := by decide +kernel
theorem dX10_surgeEnd_23 : decode cX10_surgeEnd 23 = .ok (.iinc 4 1, 3) := by decide +kernel
theorem dX10_surgeEnd_26 : decode cX10_surgeEnd 26 = .ok (.goto (-23), 3) := by decide +kernel
theorem dX10_surgeEnd_29 : decode cX10_surgeEnd 29 = .ok (.iload 4, 2) := by decide +kernel
theorem dX10_surgeEnd_31 : decode cX10_surgeEnd 31 = .ok (.ireturn, 1) := by decide +kernel
theorem dX10_interpolate_0 : decode cX10_interpolate 0 = .ok (.aload_n 0, 1) := by decide +kernel
theorem dX10_interpolate_1 : decode cX10_interpolate 1 = .ok (.getfield 15, 3) := by decide +kernel
theorem dX10_interpolate_4 : decode cX10_interpolate 4 = .ok (.ifCond .eq 28, 3) := by decide +kernel
theorem dX10_interpolate_7 : decode cX10_interpolate 7 = .ok (.iload_n 2, 1) := by decide +kernel
theorem dX10_interpolate_8 : decode cX10_interpolate 8 = .ok (.aload_n 0, 1) := by decide +kernel
theorem dX10_interpolate_9 : decode cX10_interpolate 9 = .ok (.getfield 34, 3) := by decide +kernel
theorem dX10_interpolate_12 : decode cX10_interpolate 12 = .ok (.iconst 0, 1) := by decide +kernel
theorem dX10_interpolate_13 : decode cX10_interpolate 13 = .ok (.iaload, 1) := by decide +kernel
theorem dX10_interpolate_14 : decode cX10_interpolate 14 = .ok (.if_icmp .lt 18, 3) := by decide +kernel
theorem dX10_interpolate_17 : decode cX10_interpolate 17 = .ok (.iload_n 2, 1) := by decide +kernel
theorem dX10_interpolate_18 : decode cX10_interpolate 18 = .ok (.aload_n 0, 1) := by decide +kernel
theorem dX10_interpolate_19 : decode cX10_interpolate 19 = .ok (.getfield 34, 3) := by decide +kernel
theorem dX10_interpolate_22 : decode cX10_interpolate 22 = .ok (.aload_n 0, 1) := by decide +kernel
theorem dX10_interpolate_23 : decode cX10_interpolate 23 = .ok (.getfield 15, 3) := by decide +kernel
theorem dX10_interpolate_26 : decode cX10_interpolate 26 = .ok (.iconst 1, 1) := by decide +kernel
theorem dX10_interpolate_27 : decode cX10_interpolate 27 = .ok (.isub, 1) := by decide +kernel
theorem dX10_interpolate_28 : decode cX10_interpolate 28 = .ok (.iaload, 1) := by decide +kernel
theorem dX10_interpolate_29 : decode cX10_interpolate 29 = .ok (.if_icmp .le 6, 3) := by decide +kernel
theorem dX10_interpolate_32 : decode cX10_interpolate 32 = .ok (.ldc 155, 2) := by decide +kernel
theorem dX10_interpolate_34 : decode cX10_interpolate 34 = .ok (.ireturn, 1) := by decide +kernel
theorem dX10_interpolate_35 : decode cX10_interpolate 35 = .ok (.aload_n 0, 1) := by decide +kernel
theorem dX10_interpolate_36 : decode cX10_interpolate 36 = .ok (.getfield 15, 3) := by decide +kernel
theorem dX10_interpolate_39 : decode cX10_interpolate 39 = .ok (.iconst 1, 1) := by decide +kernel
theorem dX10_interpolate_40 : decode cX10_interpolate 40 = .ok (.isub, 1) := by decide +kernel
theorem dX10_interpolate_41 : decode cX10_interpolate 41 = .ok (.istore_n 3, 1) := by decide +kernel
theorem dX10_interpolate_42 : decode cX10_interpolate 42 = .ok (.iload_n 3, 1) := by decide +kernel
theorem dX10_interpolate_43 : decode cX10_interpolate 43 = .ok (.ifCond .le 19, 3) := by decide +kernel
theorem dX10_interpolate_46 : decode cX10_interpolate 46 = .ok (.aload_n 0, 1) := by decide +kernel
theorem dX10_interpolate_47 : decode cX10_interpolate 47 = .ok (.getfield 34, 3) := by decide +kernel
theorem dX10_interpolate_50 : decode cX10_interpolate 50 = .ok (.iload_n 3, 1) := by decide +kernel
theorem dX10_interpolate_51 : decode cX10_interpolate 51 = .ok (.iaload, 1) := by decide +kernel
theorem dX10_interpolate_52 : decode cX10_interpolate 52 = .ok (.iload_n 2, 1) := by decide +kernel
theorem dX10_interpolate_53 : decode cX10_interpolate 53 = .ok (.if_icmp .le 9, 3) := by decide +kernel
theorem dX10_interpolate_56 : decode cX10_interpolate 56 = .ok (.iinc 3 (-1), 3) := by decide +kernel
theorem dX10_interpolate_59 : decode cX10_interpolate 59 = .ok (.goto (-17), 3) := by decide +kernel
theorem dX10_interpolate_62 : decode cX10_interpolate 62 = .ok (.bipush 100, 2) := by decide +kernel
theorem dX10_interpolate_64 : decode cX10_interpolate 64 = .ok (.aload_n 1, 1) := by decide +kernel
theorem dX10_interpolate_65 : decode cX10_interpolate 65 = .ok (.iload_n 3, 1) := by decide +kernel
theorem dX10_interpolate_66 : decode cX10_interpolate 66 = .ok (.iaload, 1) := by decide +kernel
theorem dX10_interpolate_67 : decode cX10_interpolate 67 = .ok (.imul, 1) := by decide +kernel
theorem dX10_interpolate_68 : decode cX10_interpolate 68 = .ok (.istore 4, 2) := by decide +kernel
theorem dX10_interpolate_70 : decode cX10_interpolate 70 = .ok (.aload_n 0, 1) := by decide +kernel
theorem dX10_interpolate_71 : decode cX10_interpolate 71 = .ok (.iload_n 3, 1) := by decide +kernel
theorem dX10_interpolate_72 : decode cX10_interpolate 72 = .ok (.invokevirtual 126, 3) := by decide +kernel
theorem dX10_interpolate_75 : decode cX10_interpolate 75 = .ok (.ifCond .eq 21, 3) := by decide +kernel
theorem dX10_interpolate_78 : decode cX10_interpolate 78 = .ok (.aload_n 0, 1) := by decide +kernel
theorem dX10_interpolate_79 : decode cX10_interpolate 79 = .ok (.getfield 34, 3) := by decide +kernel
theorem dX10_interpolate_82 : decode cX10_interpolate 82 = .ok (.iload_n 3, 1) := by decide +kernel
theorem dX10_interpolate_83 : decode cX10_interpolate 83 = .ok (.iconst 1, 1) := by decide +kernel
theorem dX10_interpolate_84 : decode cX10_interpolate 84 = .ok (.iadd, 1) := by decide +kernel
theorem dX10_interpolate_85 : decode cX10_interpolate 85 = .ok (.iaload, 1) := by decide +kernel
theorem dX10_interpolate_86 : decode cX10_interpolate 86 = .ok (.aload_n 0, 1) := by decide +kernel
theorem dX10_interpolate_87 : decode cX10_interpolate 87 = .ok (.getfield 34, 3) := by decide +kernel
theorem dX10_interpolate_90 : decode cX10_interpolate 90 = .ok (.iload_n 3, 1) := by decide +kernel
theorem dX10_interpolate_91 : decode cX10_interpolate 91 = .ok (.iaload, 1) := by decide +kernel
theorem dX10_interpolate_92 : decode cX10_interpolate 92 = .ok (.isub, 1) := by decide +kernel
theorem dX10_interpolate_93 : decode cX10_interpolate 93 = .ok (.goto 4, 3) := by decide +kernel
theorem dX10_interpolate_96 : decode cX10_interpolate 96 = .ok (.iconst 0, 1) := by decide +kernel
theorem dX10_interpolate_97 : decode cX10_interpolate 97 = .ok (.istore 5, 2) := by decide +kernel
theorem dX10_interpolate_99 : decode cX10_interpolate 99 = .ok (.iload 5, 2) := by decide +kernel
theorem dX10_interpolate_101 : decode cX10_interpolate 101 = .ok (.ifCond .gt 6, 3) := by decide +kernel
theorem dX10_interpolate_104 : decode cX10_interpolate 104 = .ok (.iload 4, 2) := by decide +kernel
theorem dX10_interpolate_106 : decode cX10_interpolate 106 = .ok (.ireturn, 1) := by decide +kernel
theorem dX10_interpolate_107 : decode cX10_interpolate 107 = .ok (.aload_n 1, 1) := by decide +kernel
theorem dX10_interpolate_108 : decode cX10_interpolate 108 = .ok (.iload_n 3, 1) := by decide +kernel
theorem dX10_interpolate_109 : decode cX10_interpolate 109 = .ok (.iconst 1, 1) := by decide +kernel
theorem dX10_interpolate_110 : decode cX10_interpolate 110 = .ok (.iadd, 1) := by decide +kernel
theorem dX10_interpolate_111 : decode cX10_interpolate 111 = .ok (.iaload, 1) := by decide +kernel
theorem dX10_interpolate_112 : decode cX10_interpolate 112 = .ok (.aload_n 1, 1) := by decide +kernel
theorem dX10_interpolate_113 : decode cX10_interpolate 113 = .ok (.iload_n 3, 1) := by decide +kernel
theorem dX10_interpolate_114 : decode cX10_interpolate 114 = .ok (.iaload, 1) := by decide +kernel
theorem dX10_interpolate_115 : decode cX10_interpolate 115 = .ok (.isub, 1) := by decide +kernel
theorem dX10_interpolate_116 : decode cX10_interpolate 116 = .ok (.istore 6, 2) := by decide +kernel
theorem dX10_interpolate_118 : decode cX10_interpolate 118 = .ok (.iload 4, 2) := by decide +kernel
theorem dX10_interpolate_120 : decode cX10_interpolate 120 = .ok (.bipush 100, 2) := by decide +kernel
theorem dX10_interpolate_122 : decode cX10_interpolate 122 = .ok (.iload 6, 2) := by decide +kernel
theorem dX10_interpolate_124 : decode cX10_interpolate 124 = .ok (.imul, 1) := by decide +kernel
theorem dX10_interpolate_125 : decode cX10_interpolate 125 = .ok (.iload_n 2, 1) := by decide +kernel
theorem dX10_interpolate_126 : decode cX10_interpolate 126 = .ok (.aload_n 0, 1) := by decide +kernel
theorem dX10_interpolate_127 : decode cX10_interpolate 127 = .ok (.getfield 34, 3) := by decide +kernel
theorem dX10_interpolate_130 : decode cX10_interpolate 130 = .ok (.iload_n 3, 1) := by decide +kernel
theorem dX10_interpolate_131 : decode cX10_interpolate 131 = .ok (.iaload, 1) := by decide +kernel
theorem dX10_interpolate_132 : decode cX10_interpolate 132 = .ok (.isub, 1) := by decide +kernel
theorem dX10_interpolate_133 : decode cX10_interpolate 133 = .ok (.imul, 1) := by decide +kernel
theorem dX10_interpolate_134 : decode cX10_interpolate 134 = .ok (.iload 5, 2) := by decide +kernel
theorem dX10_interpolate_136 : decode cX10_interpolate 136 = .ok (.invokestatic 156, 3) := by decide +kernel
theorem dX10_interpolate_139 : decode cX10_interpolate 139 = .ok (.iadd, 1) := by decide +kernel
theorem dX10_interpolate_140 : decode cX10_interpolate 140 = .ok (.ireturn, 1) := by decide +kernel
theorem dX10_travelled_0 : decode cX10_travelled 0 = .ok (.aload_n 0, 1) := by decide +kernel
theorem dX10_travelled_1 : decode cX10_travelled 1 = .ok (.getfield 15, 3) := by decide +kernel
theorem dX10_travelled_4 : decode cX10_travelled 4 = .ok (.ifCond .ne 7, 3) := by decide +kernel
theorem dX10_travelled_7 : decode cX10_travelled 7 = .ok (.iconst 0, 1) := by decide +kernel
theorem dX10_travelled_8 : decode cX10_travelled 8 = .ok (.goto 15, 3) := by decide +kernel
theorem dX10_travelled_11 : decode cX10_travelled 11 = .ok (.aload_n 1, 1) := by decide +kernel
theorem dX10_travelled_12 : decode cX10_travelled 12 = .ok (.aload_n 0, 1) := by decide +kernel
theorem dX10_travelled_13 : decode cX10_travelled 13 = .ok (.getfield 15, 3) := by decide +kernel
theorem dX10_travelled_16 : decode cX10_travelled 16 = .ok (.iconst 1, 1) := by decide +kernel
theorem dX10_travelled_17 : decode cX10_travelled 17 = .ok (.isub, 1) := by decide +kernel
theorem dX10_travelled_18 : decode cX10_travelled 18 = .ok (.iaload, 1) := by decide +kernel
theorem dX10_travelled_19 : decode cX10_travelled 19 = .ok (.aload_n 1, 1) := by decide +kernel
theorem dX10_travelled_20 : decode cX10_travelled 20 = .ok (.iconst 0, 1) := by decide +kernel
theorem dX10_travelled_21 : decode cX10_travelled 21 = .ok (.iaload, 1) := by decide +kernel
theorem dX10_travelled_22 : decode cX10_travelled 22 = .ok (.isub, 1) := by decide +kernel
theorem dX10_travelled_23 : decode cX10_travelled 23 = .ok (.ireturn, 1) := by decide +kernel
theorem dX10_distanceTo_0 : decode cX10_distanceTo 0 = .ok (.aload_n 0, 1) := by decide +kernel
theorem dX10_distanceTo_1 : decode cX10_distanceTo 1 = .ok (.iload_n 2, 1) := by decide +kernel
theorem dX10_distanceTo_2 : decode cX10_distanceTo 2 = .ok (.invokevirtual 123, 3) := by decide +kernel
theorem dX10_distanceTo_5 : decode cX10_distanceTo 5 = .ok (.istore_n 3, 1) := by decide +kernel
theorem dX10_distanceTo_6 : decode cX10_distanceTo 6 = .ok (.aload_n 1, 1) := by decide +kernel
theorem dX10_distanceTo_7 : decode cX10_distanceTo 7 = .ok (.iload_n 2, 1) := by decide +kernel
theorem dX10_distanceTo_8 : decode cX10_distanceTo 8 = .ok (.invokevirtual 123, 3) := by decide +kernel
theorem dX10_distanceTo_11 : decode cX10_distanceTo 11 = .ok (.istore 4, 2) := by decide +kernel
theorem dX10_distanceTo_13 : decode cX10_distanceTo 13 = .ok (.iload_n 3, 1) := by decide +kernel
theorem dX10_distanceTo_14 : decode cX10_distanceTo 14 = .ok (.iconst (-1), 1) := by decide +kernel
theorem dX10_distanceTo_15 : decode cX10_distanceTo 15 = .ok (.if_icmp .eq 9, 3) := by decide +kernel
theorem dX10_distanceTo_18 : decode cX10_distanceTo 18 = .ok (.iload 4, 2) := by decide +kernel
theorem dX10_distanceTo_20 : decode cX10_distanceTo 20 = .ok (.iconst (-1), 1) := by decide +kernel
theorem dX10_distanceTo_21 : decode cX10_distanceTo 21 = .ok (.if_icmp .ne 5, 3) := by decide +kernel
theorem dX10_distanceTo_24 : decode cX10_distanceTo 24 = .ok (.iconst (-1), 1) := by decide +kernel
theorem dX10_distanceTo_25 : decode cX10_distanceTo 25 = .ok (.ireturn, 1) := by decide +kernel
theorem dX10_distanceTo_26 : decode cX10_distanceTo 26 = .ok (.aload_n 0, 1) := by decide +kernel
theorem dX10_distanceTo_27 : decode cX10_distanceTo 27 = .ok (.getfield 24, 3) := by decide +kernel
theorem dX10_distanceTo_30 : decode cX10_distanceTo 30 = .ok (.iload_n 3, 1) := by decide +kernel
theorem dX10_distanceTo_31 : decode cX10_distanceTo 31 = .ok (.iaload, 1) := by decide +kernel
theorem dX10_distanceTo_32 : decode cX10_distanceTo 32 = .ok (.aload_n 1, 1) := by decide +kernel
theorem dX10_distanceTo_33 : decode cX10_distanceTo 33 = .ok (.getfield 24, 3) := by decide +kernel
theorem dX10_distanceTo_36 : decode cX10_distanceTo 36 = .ok (.iload 4, 2) := by decide +kernel
theorem dX10_distanceTo_38 : decode cX10_distanceTo 38 = .ok (.iaload, 1) := by decide +kernel
theorem dX10_distanceTo_39 : decode cX10_distanceTo 39 = .ok (.isub, 1) := by decide +kernel
theorem dX10_distanceTo_40 : decode cX10_distanceTo 40 = .ok (.i2l, 1) := by decide +kernel
theorem dX10_distanceTo_41 : decode cX10_distanceTo 41 = .ok (.lstore 5, 2) := by decide +kernel
theorem dX10_distanceTo_43 : decode cX10_distanceTo 43 = .ok (.aload_n 0, 1) := by decide +kernel
theorem dX10_distanceTo_44 : decode cX10_distanceTo 44 = .ok (.getfield 28, 3) := by decide +kernel
theorem dX10_distanceTo_47 : decode cX10_distanceTo 47 = .ok (.iload_n 3, 1) := by decide +kernel
theorem dX10_distanceTo_48 : decode cX10_distanceTo 48 = .ok (.iaload, 1) := by decide +kernel
theorem dX10_distanceTo_49 : decode cX10_distanceTo 49 = .ok (.aload_n 1, 1) := by decide +kernel
theorem dX10_distanceTo_50 : decode cX10_distanceTo 50 = .ok (.getfield 28, 3) := by decide +kernel
theorem dX10_distanceTo_53 : decode cX10_distanceTo 53 = .ok (.iload 4, 2) := by decide +kernel
theorem dX10_distanceTo_55 : decode cX10_distanceTo 55 = .ok (.iaload, 1) := by decide +kernel
theorem dX10_distanceTo_56 : decode cX10_distanceTo 56 = .ok (.isub, 1) := by decide +kernel
theorem dX10_distanceTo_57 : decode cX10_distanceTo 57 = .ok (.i2l, 1) := by decide +kernel
theorem dX10_distanceTo_58 : decode cX10_distanceTo 58 = .ok (.lstore 7, 2) := by decide +kernel
theorem dX10_distanceTo_60 : decode cX10_distanceTo 60 = .ok (.ldc2_w 159, 3) := by decide +kernel
theorem dX10_distanceTo_63 : decode cX10_distanceTo 63 = .ok (.lload 5, 2) := by decide +kernel
theorem dX10_distanceTo_65 : decode cX10_distanceTo 65 = .ok (.lload 5, 2) := by decide +kernel
theorem dX10_distanceTo_67 : decode cX10_distanceTo 67 = .ok (.lmul, 1) := by decide +kernel
theorem dX10_distanceTo_68 : decode cX10_distanceTo 68 = .ok (.lload 7, 2) := by decide +kernel
theorem dX10_distanceTo_70 : decode cX10_distanceTo 70 = .ok (.lload 7, 2) := by decide +kernel
theorem dX10_distanceTo_72 : decode cX10_distanceTo 72 = .ok (.lmul, 1) := by decide +kernel
theorem dX10_distanceTo_73 : decode cX10_distanceTo 73 = .ok (.ladd, 1) := by decide +kernel
theorem dX10_distanceTo_74 : decode cX10_distanceTo 74 = .ok (.lmul, 1) := by decide +kernel
theorem dX10_distanceTo_75 : decode cX10_distanceTo 75 = .ok (.invokestatic 129, 3) := by decide +kernel
theorem dX10_distanceTo_78 : decode cX10_distanceTo 78 = .ok (.ireturn, 1) := by decide +kernel
theorem dX11_init_0 : decode cX11_init 0 = .ok (.aload_n 0, 1) := by decide +kernel
theorem dX11_init_1 : decode cX11_init 1 = .ok (.invokespecial 1, 3) := by decide +kernel
theorem dX11_init_4 : decode cX11_init 4 = .ok (.aload_n 0, 1) := by decide +kernel
theorem dX11_init_5 : decode cX11_init 5 = .ok (.new 7, 3) := by decide +kernel
theorem dX11_init_8 : decode cX11_init 8 = .ok (.dup, 1) := by decide +kernel
theorem dX11_init_9 : decode cX11_init 9 = .ok (.invokespecial 9, 3) := by decide +kernel
theorem dX11_init_12 : decode cX11_init 12 = .ok (.putfield 10, 3) := by decide +kernel
theorem dX11_init_15 : decode cX11_init 15 = .ok (.aload_n 0, 1) := by decide +kernel
theorem dX11_init_16 : decode cX11_init 16 = .ok (.new 16, 3) := by decide +kernel
theorem dX11_init_19 : decode cX11_init 19 = .ok (.dup, 1) := by decide +kernel
theorem dX11_init_20 : decode cX11_init 20 = .ok (.invokespecial 18, 3) := by decide +kernel
theorem dX11_init_23 : decode cX11_init 23 = .ok (.putfield 19, 3) := by decide +kernel
theorem dX11_init_26 : decode cX11_init 26 = .ok (.aload_n 0, 1) := by decide +kernel
theorem dX11_init_27 : decode cX11_init 27 = .ok (.new 23, 3) := by decide +kernel
theorem dX11_init_30 : decode cX11_init 30 = .ok (.dup, 1) := by decide +kernel
theorem dX11_init_31 : decode cX11_init 31 = .ok (.invokespecial 25, 3) := by decide +kernel
theorem dX11_init_34 : decode cX11_init 34 = .ok (.putfield 26, 3) := by decide +kernel
theorem dX11_init_37 : decode cX11_init 37 = .ok (.aload_n 0, 1) := by decide +kernel
theorem dX11_init_38 : decode cX11_init 38 = .ok (.new 30, 3) := by decide +kernel
theorem dX11_init_41 : decode cX11_init 41 = .ok (.dup, 1) := by decide +kernel
theorem dX11_init_42 : decode cX11_init 42 = .ok (.invokespecial 32, 3) := by decide +kernel
theorem dX11_init_45 : decode cX11_init 45 = .ok (.putfield 33, 3) := by decide +kernel
theorem dX11_init_48 : decode cX11_init 48 = .ok (.aload_n 0, 1) := by decide +kernel
theorem dX11_init_49 : decode cX11_init 49 = .ok (.new 37, 3) := by decide +kernel
theorem dX11_init_52 : decode cX11_init 52 = .ok (.dup, 1) := by decide +kernel
theorem dX11_init_53 : decode cX11_init 53 = .ok (.invokespecial 39, 3) := by decide +kernel
theorem dX11_init_56 : decode cX11_init 56 = .ok (.putfield 40, 3) := by decide +kernel
theorem dX11_init_59 : decode cX11_init 59 = .ok (.aload_n 0, 1) := by decide +kernel
theorem dX11_init_60 : decode cX11_init 60 = .ok (.bipush 6, 2) := by decide +kernel
theorem dX11_init_62 : decode cX11_init 62 = .ok (.anewarray 44, 3) := by decide +kernel
theorem dX11_init_65 : decode cX11_init 65 = .ok (.putfield 46, 3) := by decide +kernel
theorem dX11_init_68 : decode cX11_init 68 = .ok (.aload_n 0, 1) := by decide +kernel
theorem dX11_init_69 : decode cX11_init 69 = .ok (.new 44, 3) := by decide +kernel
theorem dX11_init_72 : decode cX11_init 72 = .ok (.dup, 1) := by decide +kernel
theorem dX11_init_73 : decode cX11_init 73 = .ok (.invokespecial 50, 3) := by decide +kernel
theorem dX11_init_76 : decode cX11_init 76 = .ok (.putfield 51, 3) := by decide +kernel
theorem dX11_init_79 : decode cX11_init 79 = .ok (.aload_n 0, 1) := by decide +kernel
theorem dX11_init_80 : decode cX11_init 80 = .ok (.iconst (-1), 1) := by decide +kernel
theorem dX11_init_81 : decode cX11_init 81 = .ok (.putfield 55, 3) := by decide +kernel
theorem dX11_init_84 : decode cX11_init 84 = .ok (.aload_n 0, 1) := by decide +kernel
theorem dX11_init_85 : decode cX11_init 85 = .ok (.iconst 0, 1) := by decide +kernel
theorem dX11_init_86 : decode cX11_init 86 = .ok (.putfield 59, 3) := by decide +kernel
theorem dX11_init_89 : decode cX11_init 89 = .ok (.iconst 0, 1) := by decide +kernel
theorem dX11_init_90 : decode cX11_init 90 = .ok (.istore_n 1, 1) := by decide +kernel
theorem dX11_init_91 : decode cX11_init 91 = .ok (.iload_n 1, 1) := by decide +kernel
theorem dX11_init_92 : decode cX11_init 92 = .ok (.bipush 6, 2) := by decide +kernel
theorem dX11_init_94 : decode cX11_init 94 = .ok (.if_icmp .ge 22, 3) := by decide +kernel
theorem dX11_init_97 : decode cX11_init 97 = .ok (.aload_n 0, 1) := by decide +kernel
theorem dX11_init_98 : decode cX11_init 98 = .ok (.getfield 46, 3) := by decide +kernel
theorem dX11_init_101 : decode cX11_init 101 = .ok (.iload_n 1, 1) := by decide +kernel
theorem dX11_init_102 : decode cX11_init 102 = .ok (.new 44, 3) := by decide +kernel
theorem dX11_init_105 : decode cX11_init 105 = .ok (.dup, 1) := by decide +kernel
theorem dX11_init_106 : decode cX11_init 106 = .ok (.invokespecial 50, 3) := by decide +kernel
theorem dX11_init_109 : decode cX11_init 109 = .ok (.aastore, 1) := by decide +kernel
theorem dX11_init_110 : decode cX11_init 110 = .ok (.iinc 1 1, 3) := by decide +kernel
theorem dX11_init_113 : decode cX11_init 113 = .ok (.goto (-22), 3) := by decide +kernel
theorem dX11_init_116 : decode cX11_init 116 = .ok (.return_, 1) := by decide +kernel
theorem dX11_feed_0 : decode cX11_feed 0 = .ok (.aload_n 0, 1) := by decide +kernel
theorem dX11_feed_1 : decode cX11_feed 1 = .ok (.getfield 19, 3) := by decide +kernel
theorem dX11_feed_4 : decode cX11_feed 4 = .ok (.getfield 62, 3) := by decide +kernel
theorem dX11_feed_7 : decode cX11_feed 7 = .ok (.astore 6, 2) := by decide +kernel
theorem dX11_feed_9 : decode cX11_feed 9 = .ok (.aload 6, 2) := by decide +kernel
theorem dX11_feed_11 : decode cX11_feed 11 = .ok (.getfield 66, 3) := by decide +kernel
theorem dX11_feed_14 : decode cX11_feed 14 = .ok (.bipush 20, 2) := by decide +kernel
theorem dX11_feed_16 : decode cX11_feed 16 = .ok (.iadd, 1) := by decide +kernel
theorem dX11_feed_17 : decode cX11_feed 17 = .ok (.sipush 1400, 3) := by decide +kernel
theorem dX11_feed_20 : decode cX11_feed 20 = .ok (.if_icmp .le 6, 3) := by decide +kernel
theorem dX11_feed_23 : decode cX11_feed 23 = .ok (.bipush (-3), 2) := by decide +kernel
theorem dX11_feed_25 : decode cX11_feed 25 = .ok (.ireturn, 1) := by decide +kernel
theorem dX11_feed_26 : decode cX11_feed 26 = .ok (.aload 6, 2) := by decide +kernel
theorem dX11_feed_28 : decode cX11_feed 28 = .ok (.iload_n 1, 1) := by decide +kernel
theorem dX11_feed_29 : decode cX11_feed 29 = .ok (.invokevirtual 71, 3) := by decide +kernel
theorem dX11_feed_32 : decode cX11_feed 32 = .ok (.aload 6, 2) := by decide +kernel
theorem dX11_feed_34 : decode cX11_feed 34 = .ok (.iload_n 2, 1) := by decide +kernel
theorem dX11_feed_35 : decode cX11_feed 35 = .ok (.invokevirtual 71, 3) := by decide +kernel
theorem dX11_feed_38 : decode cX11_feed 38 = .ok (.aload 6, 2) := by decide +kernel
theorem dX11_feed_40 : decode cX11_feed 40 = .ok (.iload_n 3, 1) := by decide +kernel
theorem dX11_feed_41 : decode cX11_feed 41 = .ok (.invokevirtual 71, 3) := by decide +kernel
theorem dX11_feed_44 : decode cX11_feed 44 = .ok (.aload 6, 2) := by decide +kernel
theorem dX11_feed_46 : decode cX11_feed 46 = .ok (.iload 4, 2) := by decide +kernel
theorem dX11_feed_48 : decode cX11_feed 48 = .ok (.invokevirtual 71, 3) := by decide +kernel
theorem dX11_feed_51 : decode cX11_feed 51 = .ok (.aload 6, 2) := by decide +kernel
theorem dX11_feed_53 : decode cX11_feed 53 = .ok (.iload 5, 2) := by decide +kernel
theorem dX11_feed_55 : decode cX11_feed 55 = .ok (.invokevirtual 71, 3) := by decide +kernel
theorem dX11_feed_58 : decode cX11_feed 58 = .ok (.aload 6, 2) := by decide +kernel
theorem dX11_feed_60 : decode cX11_feed 60 = .ok (.getfield 66, 3) := by decide +kernel
theorem dX11_feed_63 : decode cX11_feed 63 = .ok (.ireturn, 1) := by decide +kernel
theorem dX11_load_0 : decode cX11_load 0 = .ok (.aload_n 0, 1) := by decide +kernel
