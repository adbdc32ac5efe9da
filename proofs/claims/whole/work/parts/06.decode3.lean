theorem dX12_removeFrame_39 : decode cX12_removeFrame 39 = .ok (.iload_n 2, 1) := by decide +kernel
theorem dX12_removeFrame_40 : decode cX12_removeFrame 40 = .ok (.iadd, 1) := by decide +kernel
theorem dX12_removeFrame_41 : decode cX12_removeFrame 41 = .ok (.aload_n 0, 1) := by decide +kernel
theorem dX12_removeFrame_42 : decode cX12_removeFrame 42 = .ok (.getfield 7, 3) := by decide +kernel
theorem dX12_removeFrame_45 : decode cX12_removeFrame 45 = .ok (.bipush 6, 2) := by decide +kernel
theorem dX12_removeFrame_47 : decode cX12_removeFrame 47 = .ok (.iload_n 2, 1) := by decide +kernel
theorem dX12_removeFrame_48 : decode cX12_removeFrame 48 = .ok (.iadd, 1) := by decide +kernel
theorem dX12_removeFrame_49 : decode cX12_removeFrame 49 = .ok (.iconst 1, 1) := by decide +kernel
theorem dX12_removeFrame_50 : decode cX12_removeFrame 50 = .ok (.iadd, 1) := by decide +kernel
theorem dX12_removeFrame_51 : decode cX12_removeFrame 51 = .ok (.iaload, 1) := by decide +kernel
theorem dX12_removeFrame_52 : decode cX12_removeFrame 52 = .ok (.iastore, 1) := by decide +kernel
theorem dX12_removeFrame_53 : decode cX12_removeFrame 53 = .ok (.bipush 91, 2) := by decide +kernel
theorem dX12_removeFrame_55 : decode cX12_removeFrame 55 = .ok (.bipush 120, 2) := by decide +kernel
theorem dX12_removeFrame_57 : decode cX12_removeFrame 57 = .ok (.iload_n 2, 1) := by decide +kernel
theorem dX12_removeFrame_58 : decode cX12_removeFrame 58 = .ok (.imul, 1) := by decide +kernel
theorem dX12_removeFrame_59 : decode cX12_removeFrame 59 = .ok (.iadd, 1) := by decide +kernel
theorem dX12_removeFrame_60 : decode cX12_removeFrame 60 = .ok (.istore_n 3, 1) := by decide +kernel
theorem dX12_removeFrame_61 : decode cX12_removeFrame 61 = .ok (.iload_n 3, 1) := by decide +kernel
theorem dX12_removeFrame_62 : decode cX12_removeFrame 62 = .ok (.bipush 91, 2) := by decide +kernel
theorem dX12_removeFrame_64 : decode cX12_removeFrame 64 = .ok (.bipush 120, 2) := by decide +kernel
theorem dX12_removeFrame_66 : decode cX12_removeFrame 66 = .ok (.iload_n 2, 1) := by decide +kernel
theorem dX12_removeFrame_67 : decode cX12_removeFrame 67 = .ok (.iconst 1, 1) := by decide +kernel
theorem dX12_removeFrame_68 : decode cX12_removeFrame 68 = .ok (.iadd, 1) := by decide +kernel
theorem dX12_removeFrame_69 : decode cX12_removeFrame 69 = .ok (.imul, 1) := by decide +kernel
theorem dX12_removeFrame_70 : decode cX12_removeFrame 70 = .ok (.iadd, 1) := by decide +kernel
theorem dX12_removeFrame_71 : decode cX12_removeFrame 71 = .ok (.if_icmp .ge 24, 3) := by decide +kernel
theorem dX12_removeFrame_74 : decode cX12_removeFrame 74 = .ok (.aload_n 0, 1) := by decide +kernel
theorem dX12_removeFrame_75 : decode cX12_removeFrame 75 = .ok (.getfield 7, 3) := by decide +kernel
theorem dX12_removeFrame_78 : decode cX12_removeFrame 78 = .ok (.iload_n 3, 1) := by decide +kernel
theorem dX12_removeFrame_79 : decode cX12_removeFrame 79 = .ok (.aload_n 0, 1) := by decide +kernel
theorem dX12_removeFrame_80 : decode cX12_removeFrame 80 = .ok (.getfield 7, 3) := by decide +kernel
theorem dX12_removeFrame_83 : decode cX12_removeFrame 83 = .ok (.iload_n 3, 1) := by decide +kernel
theorem dX12_removeFrame_84 : decode cX12_removeFrame 84 = .ok (.bipush 120, 2) := by decide +kernel
theorem dX12_removeFrame_86 : decode cX12_removeFrame 86 = .ok (.iadd, 1) := by decide +kernel
theorem dX12_removeFrame_87 : decode cX12_removeFrame 87 = .ok (.iaload, 1) := by decide +kernel
theorem dX12_removeFrame_88 : decode cX12_removeFrame 88 = .ok (.iastore, 1) := by decide +kernel
theorem dX12_removeFrame_89 : decode cX12_removeFrame 89 = .ok (.iinc 3 1, 3) := by decide +kernel
theorem dX12_removeFrame_92 : decode cX12_removeFrame 92 = .ok (.goto (-31), 3) := by decide +kernel
theorem dX12_removeFrame_95 : decode cX12_removeFrame 95 = .ok (.iinc 2 1, 3) := by decide +kernel
theorem dX12_removeFrame_98 : decode cX12_removeFrame 98 = .ok (.goto (-77), 3) := by decide +kernel
theorem dX12_removeFrame_101 : decode cX12_removeFrame 101 = .ok (.aload_n 0, 1) := by decide +kernel
theorem dX12_removeFrame_102 : decode cX12_removeFrame 102 = .ok (.getfield 7, 3) := by decide +kernel
theorem dX12_removeFrame_105 : decode cX12_removeFrame 105 = .ok (.iconst 2, 1) := by decide +kernel
theorem dX12_removeFrame_106 : decode cX12_removeFrame 106 = .ok (.dup2, 1) := by decide +kernel
theorem dX12_removeFrame_107 : decode cX12_removeFrame 107 = .ok (.iaload, 1) := by decide +kernel
theorem dX12_removeFrame_108 : decode cX12_removeFrame 108 = .ok (.iconst 1, 1) := by decide +kernel
theorem dX12_removeFrame_109 : decode cX12_removeFrame 109 = .ok (.isub, 1) := by decide +kernel
theorem dX12_removeFrame_110 : decode cX12_removeFrame 110 = .ok (.iastore, 1) := by decide +kernel
theorem dX12_removeFrame_111 : decode cX12_removeFrame 111 = .ok (.aload_n 0, 1) := by decide +kernel
theorem dX12_removeFrame_112 : decode cX12_removeFrame 112 = .ok (.getfield 7, 3) := by decide +kernel
theorem dX12_removeFrame_115 : decode cX12_removeFrame 115 = .ok (.iconst 2, 1) := by decide +kernel
theorem dX12_removeFrame_116 : decode cX12_removeFrame 116 = .ok (.iaload, 1) := by decide +kernel
theorem dX12_removeFrame_117 : decode cX12_removeFrame 117 = .ok (.ireturn, 1) := by decide +kernel
theorem dX12_moveFeature_0 : decode cX12_moveFeature 0 = .ok (.aload_n 0, 1) := by decide +kernel
theorem dX12_moveFeature_1 : decode cX12_moveFeature 1 = .ok (.iconst 0, 1) := by decide +kernel
theorem dX12_moveFeature_2 : decode cX12_moveFeature 2 = .ok (.putfield 83, 3) := by decide +kernel
theorem dX12_moveFeature_5 : decode cX12_moveFeature 5 = .ok (.aload_n 0, 1) := by decide +kernel
theorem dX12_moveFeature_6 : decode cX12_moveFeature 6 = .ok (.iload_n 1, 1) := by decide +kernel
theorem dX12_moveFeature_7 : decode cX12_moveFeature 7 = .ok (.invokevirtual 241, 3) := by decide +kernel
theorem dX12_moveFeature_10 : decode cX12_moveFeature 10 = .ok (.ifCond .eq 12, 3) := by decide +kernel
theorem dX12_moveFeature_13 : decode cX12_moveFeature 13 = .ok (.aload_n 0, 1) := by decide +kernel
theorem dX12_moveFeature_14 : decode cX12_moveFeature 14 = .ok (.iload_n 2, 1) := by decide +kernel
theorem dX12_moveFeature_15 : decode cX12_moveFeature 15 = .ok (.iload_n 3, 1) := by decide +kernel
theorem dX12_moveFeature_16 : decode cX12_moveFeature 16 = .ok (.invokevirtual 233, 3) := by decide +kernel
theorem dX12_moveFeature_19 : decode cX12_moveFeature 19 = .ok (.ifCond .ne 5, 3) := by decide +kernel
theorem dX12_moveFeature_22 : decode cX12_moveFeature 22 = .ok (.iconst 0, 1) := by decide +kernel
theorem dX12_moveFeature_23 : decode cX12_moveFeature 23 = .ok (.ireturn, 1) := by decide +kernel
theorem dX12_moveFeature_24 : decode cX12_moveFeature 24 = .ok (.aload_n 0, 1) := by decide +kernel
theorem dX12_moveFeature_25 : decode cX12_moveFeature 25 = .ok (.invokevirtual 219, 3) := by decide +kernel
theorem dX12_moveFeature_28 : decode cX12_moveFeature 28 = .ok (.aload_n 0, 1) := by decide +kernel
theorem dX12_moveFeature_29 : decode cX12_moveFeature 29 = .ok (.getfield 7, 3) := by decide +kernel
theorem dX12_moveFeature_32 : decode cX12_moveFeature 32 = .ok (.bipush 20, 2) := by decide +kernel
theorem dX12_moveFeature_34 : decode cX12_moveFeature 34 = .ok (.iconst 2, 1) := by decide +kernel
theorem dX12_moveFeature_35 : decode cX12_moveFeature 35 = .ok (.iload_n 1, 1) := by decide +kernel
theorem dX12_moveFeature_36 : decode cX12_moveFeature 36 = .ok (.imul, 1) := by decide +kernel
theorem dX12_moveFeature_37 : decode cX12_moveFeature 37 = .ok (.iadd, 1) := by decide +kernel
theorem dX12_moveFeature_38 : decode cX12_moveFeature 38 = .ok (.iload_n 2, 1) := by decide +kernel
theorem dX12_moveFeature_39 : decode cX12_moveFeature 39 = .ok (.iastore, 1) := by decide +kernel
theorem dX12_moveFeature_40 : decode cX12_moveFeature 40 = .ok (.aload_n 0, 1) := by decide +kernel
theorem dX12_moveFeature_41 : decode cX12_moveFeature 41 = .ok (.getfield 7, 3) := by decide +kernel
theorem dX12_moveFeature_44 : decode cX12_moveFeature 44 = .ok (.bipush 20, 2) := by decide +kernel
theorem dX12_moveFeature_46 : decode cX12_moveFeature 46 = .ok (.iconst 2, 1) := by decide +kernel
theorem dX12_moveFeature_47 : decode cX12_moveFeature 47 = .ok (.iload_n 1, 1) := by decide +kernel
theorem dX12_moveFeature_48 : decode cX12_moveFeature 48 = .ok (.imul, 1) := by decide +kernel
theorem dX12_moveFeature_49 : decode cX12_moveFeature 49 = .ok (.iadd, 1) := by decide +kernel
theorem dX12_moveFeature_50 : decode cX12_moveFeature 50 = .ok (.iconst 1, 1) := by decide +kernel
theorem dX12_moveFeature_51 : decode cX12_moveFeature 51 = .ok (.iadd, 1) := by decide +kernel
theorem dX12_moveFeature_52 : decode cX12_moveFeature 52 = .ok (.iload_n 3, 1) := by decide +kernel
theorem dX12_moveFeature_53 : decode cX12_moveFeature 53 = .ok (.iastore, 1) := by decide +kernel
theorem dX12_moveFeature_54 : decode cX12_moveFeature 54 = .ok (.iconst 1, 1) := by decide +kernel
theorem dX12_moveFeature_55 : decode cX12_moveFeature 55 = .ok (.ireturn, 1) := by decide +kernel
theorem dX12_contrastOf_0 : decode cX12_contrastOf 0 = .ok (.bipush 9, 2) := by decide +kernel
theorem dX12_contrastOf_2 : decode cX12_contrastOf 2 = .ok (.istore_n 2, 1) := by decide +kernel
theorem dX12_contrastOf_3 : decode cX12_contrastOf 3 = .ok (.iconst 0, 1) := by decide +kernel
theorem dX12_contrastOf_4 : decode cX12_contrastOf 4 = .ok (.istore_n 3, 1) := by decide +kernel
theorem dX12_contrastOf_5 : decode cX12_contrastOf 5 = .ok (.iconst 0, 1) := by decide +kernel
theorem dX12_contrastOf_6 : decode cX12_contrastOf 6 = .ok (.istore 4, 2) := by decide +kernel
theorem dX12_contrastOf_8 : decode cX12_contrastOf 8 = .ok (.iload 4, 2) := by decide +kernel
theorem dX12_contrastOf_10 : decode cX12_contrastOf 10 = .ok (.aload_n 0, 1) := by decide +kernel
theorem dX12_contrastOf_11 : decode cX12_contrastOf 11 = .ok (.getfield 7, 3) := by decide +kernel
theorem dX12_contrastOf_14 : decode cX12_contrastOf 14 = .ok (.iconst 1, 1) := by decide +kernel
theorem dX12_contrastOf_15 : decode cX12_contrastOf 15 = .ok (.iaload, 1) := by decide +kernel
theorem dX12_contrastOf_16 : decode cX12_contrastOf 16 = .ok (.if_icmp .ge 66, 3) := by decide +kernel
theorem dX12_contrastOf_19 : decode cX12_contrastOf 19 = .ok (.iconst 0, 1) := by decide +kernel
theorem dX12_contrastOf_20 : decode cX12_contrastOf 20 = .ok (.istore 5, 2) := by decide +kernel
theorem dX12_contrastOf_22 : decode cX12_contrastOf 22 = .ok (.iload 5, 2) := by decide +kernel
theorem dX12_contrastOf_24 : decode cX12_contrastOf 24 = .ok (.aload_n 0, 1) := by decide +kernel
theorem dX12_contrastOf_25 : decode cX12_contrastOf 25 = .ok (.getfield 7, 3) := by decide +kernel
theorem dX12_contrastOf_28 : decode cX12_contrastOf 28 = .ok (.iconst 0, 1) := by decide +kernel
theorem dX12_contrastOf_29 : decode cX12_contrastOf 29 = .ok (.iaload, 1) := by decide +kernel
theorem dX12_contrastOf_30 : decode cX12_contrastOf 30 = .ok (.if_icmp .ge 46, 3) := by decide +kernel
theorem dX12_contrastOf_33 : decode cX12_contrastOf 33 = .ok (.aload_n 0, 1) := by decide +kernel
theorem dX12_contrastOf_34 : decode cX12_contrastOf 34 = .ok (.iload_n 1, 1) := by decide +kernel
theorem dX12_contrastOf_35 : decode cX12_contrastOf 35 = .ok (.iload 5, 2) := by decide +kernel
theorem dX12_contrastOf_37 : decode cX12_contrastOf 37 = .ok (.iload 4, 2) := by decide +kernel
theorem dX12_contrastOf_39 : decode cX12_contrastOf 39 = .ok (.invokevirtual 237, 3) := by decide +kernel
theorem dX12_contrastOf_42 : decode cX12_contrastOf 42 = .ok (.istore 6, 2) := by decide +kernel
theorem dX12_contrastOf_44 : decode cX12_contrastOf 44 = .ok (.iload 6, 2) := by decide +kernel
theorem dX12_contrastOf_46 : decode cX12_contrastOf 46 = .ok (.iload_n 2, 1) := by decide +kernel
theorem dX12_contrastOf_47 : decode cX12_contrastOf 47 = .ok (.if_icmp .ge 8, 3) := by decide +kernel
theorem dX12_contrastOf_50 : decode cX12_contrastOf 50 = .ok (.iload 6, 2) := by decide +kernel
theorem dX12_contrastOf_52 : decode cX12_contrastOf 52 = .ok (.goto 4, 3) := by decide +kernel
theorem dX12_contrastOf_55 : decode cX12_contrastOf 55 = .ok (.iload_n 2, 1) := by decide +kernel
theorem dX12_contrastOf_56 : decode cX12_contrastOf 56 = .ok (.istore_n 2, 1) := by decide +kernel
theorem dX12_contrastOf_57 : decode cX12_contrastOf 57 = .ok (.iload 6, 2) := by decide +kernel
theorem dX12_contrastOf_59 : decode cX12_contrastOf 59 = .ok (.iload_n 3, 1) := by decide +kernel
theorem dX12_contrastOf_60 : decode cX12_contrastOf 60 = .ok (.if_icmp .le 8, 3) := by decide +kernel
theorem dX12_contrastOf_63 : decode cX12_contrastOf 63 = .ok (.iload 6, 2) := by decide +kernel
theorem dX12_contrastOf_65 : decode cX12_contrastOf 65 = .ok (.goto 4, 3) := by decide +kernel
theorem dX12_contrastOf_68 : decode cX12_contrastOf 68 = .ok (.iload_n 3, 1) := by decide +kernel
theorem dX12_contrastOf_69 : decode cX12_contrastOf 69 = .ok (.istore_n 3, 1) := by decide +kernel
theorem dX12_contrastOf_70 : decode cX12_contrastOf 70 = .ok (.iinc 5 1, 3) := by decide +kernel
theorem dX12_contrastOf_73 : decode cX12_contrastOf 73 = .ok (.goto (-51), 3) := by decide +kernel
theorem dX12_contrastOf_76 : decode cX12_contrastOf 76 = .ok (.iinc 4 1, 3) := by decide +kernel
theorem dX12_contrastOf_79 : decode cX12_contrastOf 79 = .ok (.goto (-71), 3) := by decide +kernel
theorem dX12_contrastOf_82 : decode cX12_contrastOf 82 = .ok (.iload_n 3, 1) := by decide +kernel
theorem dX12_contrastOf_83 : decode cX12_contrastOf 83 = .ok (.iload_n 2, 1) := by decide +kernel
theorem dX12_contrastOf_84 : decode cX12_contrastOf 84 = .ok (.isub, 1) := by decide +kernel
theorem dX12_contrastOf_85 : decode cX12_contrastOf 85 = .ok (.ireturn, 1) := by decide +kernel
theorem dX12_usable_0 : decode cX12_usable 0 = .ok (.aload_n 0, 1) := by decide +kernel
theorem dX12_usable_1 : decode cX12_usable 1 = .ok (.iload_n 1, 1) := by decide +kernel
theorem dX12_usable_2 : decode cX12_usable 2 = .ok (.invokevirtual 244, 3) := by decide +kernel
theorem dX12_usable_5 : decode cX12_usable 5 = .ok (.aload_n 0, 1) := by decide +kernel
theorem dX12_usable_6 : decode cX12_usable 6 = .ok (.iconst 3, 1) := by decide +kernel
theorem dX12_usable_7 : decode cX12_usable 7 = .ok (.invokevirtual 216, 3) := by decide +kernel
theorem dX12_usable_10 : decode cX12_usable 10 = .ok (.if_icmp .lt 7, 3) := by decide +kernel
theorem dX12_usable_13 : decode cX12_usable 13 = .ok (.iconst 1, 1) := by decide +kernel
theorem dX12_usable_14 : decode cX12_usable 14 = .ok (.goto 4, 3) := by decide +kernel
theorem dX12_usable_17 : decode cX12_usable 17 = .ok (.iconst 0, 1) := by decide +kernel
theorem dX12_usable_18 : decode cX12_usable 18 = .ok (.ireturn, 1) := by decide +kernel
theorem dX12_reference_0 : decode cX12_reference 0 = .ok (.iconst 0, 1) := by decide +kernel
theorem dX12_reference_1 : decode cX12_reference 1 = .ok (.istore_n 1, 1) := by decide +kernel
theorem dX12_reference_2 : decode cX12_reference 2 = .ok (.iload_n 1, 1) := by decide +kernel
theorem dX12_reference_3 : decode cX12_reference 3 = .ok (.aload_n 0, 1) := by decide +kernel
theorem dX12_reference_4 : decode cX12_reference 4 = .ok (.getfield 7, 3) := by decide +kernel
theorem dX12_reference_7 : decode cX12_reference 7 = .ok (.iconst 2, 1) := by decide +kernel
theorem dX12_reference_8 : decode cX12_reference 8 = .ok (.iaload, 1) := by decide +kernel
theorem dX12_reference_9 : decode cX12_reference 9 = .ok (.if_icmp .ge 19, 3) := by decide +kernel
theorem dX12_reference_12 : decode cX12_reference 12 = .ok (.aload_n 0, 1) := by decide +kernel
theorem dX12_reference_13 : decode cX12_reference 13 = .ok (.iload_n 1, 1) := by decide +kernel
theorem dX12_reference_14 : decode cX12_reference 14 = .ok (.invokevirtual 247, 3) := by decide +kernel
theorem dX12_reference_17 : decode cX12_reference 17 = .ok (.ifCond .eq 5, 3) := by decide +kernel
theorem dX12_reference_20 : decode cX12_reference 20 = .ok (.iload_n 1, 1) := by decide +kernel
theorem dX12_reference_21 : decode cX12_reference 21 = .ok (.ireturn, 1) := by decide +kernel
theorem dX12_reference_22 : decode cX12_reference 22 = .ok (.iinc 1 1, 3) := by decide +kernel
theorem dX12_reference_25 : decode cX12_reference 25 = .ok (.goto (-23), 3) := by decide +kernel
theorem dX12_reference_28 : decode cX12_reference 28 = .ok (.iconst (-1), 1) := by decide +kernel
theorem dX12_reference_29 : decode cX12_reference 29 = .ok (.ireturn, 1) := by decide +kernel
theorem dX12_contrast_0 : decode cX12_contrast 0 = .ok (.aload_n 0, 1) := by decide +kernel
theorem dX12_contrast_1 : decode cX12_contrast 1 = .ok (.aload_n 0, 1) := by decide +kernel
theorem dX12_contrast_2 : decode cX12_contrast 2 = .ok (.iload_n 1, 1) := by decide +kernel
theorem dX12_contrast_3 : decode cX12_contrast 3 = .ok (.invokevirtual 222, 3) := by decide +kernel
theorem dX12_contrast_6 : decode cX12_contrast 6 = .ok (.invokevirtual 226, 3) := by decide +kernel
theorem dX12_contrast_9 : decode cX12_contrast 9 = .ok (.ifCond .eq 7, 3) := by decide +kernel
theorem dX12_contrast_12 : decode cX12_contrast 12 = .ok (.iconst 0, 1) := by decide +kernel
theorem dX12_contrast_13 : decode cX12_contrast 13 = .ok (.goto 8, 3) := by decide +kernel
theorem dX12_contrast_16 : decode cX12_contrast 16 = .ok (.aload_n 0, 1) := by decide +kernel
theorem dX12_contrast_17 : decode cX12_contrast 17 = .ok (.iload_n 1, 1) := by decide +kernel
theorem dX12_contrast_18 : decode cX12_contrast 18 = .ok (.invokevirtual 244, 3) := by decide +kernel
theorem dX12_contrast_21 : decode cX12_contrast 21 = .ok (.ireturn, 1) := by decide +kernel
theorem dX12_isUsable_0 : decode cX12_isUsable 0 = .ok (.aload_n 0, 1) := by decide +kernel
theorem dX12_isUsable_1 : decode cX12_isUsable 1 = .ok (.aload_n 0, 1) := by decide +kernel
theorem dX12_isUsable_2 : decode cX12_isUsable 2 = .ok (.iload_n 1, 1) := by decide +kernel
theorem dX12_isUsable_3 : decode cX12_isUsable 3 = .ok (.invokevirtual 222, 3) := by decide +kernel
theorem dX12_isUsable_6 : decode cX12_isUsable 6 = .ok (.invokevirtual 226, 3) := by decide +kernel
theorem dX12_isUsable_9 : decode cX12_isUsable 9 = .ok (.ifCond .ne 15, 3) := by decide +kernel
theorem dX12_isUsable_12 : decode cX12_isUsable 12 = .ok (.aload_n 0, 1) := by decide +kernel
theorem dX12_isUsable_13 : decode cX12_isUsable 13 = .ok (.iload_n 1, 1) := by decide +kernel
theorem dX12_isUsable_14 : decode cX12_isUsable 14 = .ok (.invokevirtual 247, 3) := by decide +kernel
theorem dX12_isUsable_17 : decode cX12_isUsable 17 = .ok (.ifCond .eq 7, 3) := by decide +kernel
theorem dX12_isUsable_20 : decode cX12_isUsable 20 = .ok (.iconst 1, 1) := by decide +kernel
theorem dX12_isUsable_21 : decode cX12_isUsable 21 = .ok (.goto 4, 3) := by decide +kernel
theorem dX12_isUsable_24 : decode cX12_isUsable 24 = .ok (.iconst 0, 1) := by decide +kernel
theorem dX12_isUsable_25 : decode cX12_isUsable 25 = .ok (.ireturn, 1) := by decide +kernel
theorem dX12_referenceFrame_0 : decode cX12_referenceFrame 0 = .ok (.aload_n 0, 1) := by decide +kernel
theorem dX12_referenceFrame_1 : decode cX12_referenceFrame 1 = .ok (.iconst 0, 1) := by decide +kernel
theorem dX12_referenceFrame_2 : decode cX12_referenceFrame 2 = .ok (.putfield 83, 3) := by decide +kernel
theorem dX12_referenceFrame_5 : decode cX12_referenceFrame 5 = .ok (.aload_n 0, 1) := by decide +kernel
theorem dX12_referenceFrame_6 : decode cX12_referenceFrame 6 = .ok (.invokevirtual 250, 3) := by decide +kernel
theorem dX12_referenceFrame_9 : decode cX12_referenceFrame 9 = .ok (.ireturn, 1) := by decide +kernel
theorem dX12_isInside_0 : decode cX12_isInside 0 = .ok (.aload_n 0, 1) := by decide +kernel
theorem dX12_isInside_1 : decode cX12_isInside 1 = .ok (.iconst 0, 1) := by decide +kernel
theorem dX12_isInside_2 : decode cX12_isInside 2 = .ok (.invokevirtual 216, 3) := by decide +kernel
theorem dX12_isInside_5 : decode cX12_isInside 5 = .ok (.istore_n 3, 1) := by decide +kernel
theorem dX12_isInside_6 : decode cX12_isInside 6 = .ok (.iload_n 1, 1) := by decide +kernel
theorem dX12_isInside_7 : decode cX12_isInside 7 = .ok (.iload_n 3, 1) := by decide +kernel
theorem dX12_isInside_8 : decode cX12_isInside 8 = .ok (.if_icmp .lt 36, 3) := by decide +kernel
theorem dX12_isInside_11 : decode cX12_isInside 11 = .ok (.iload_n 2, 1) := by decide +kernel
theorem dX12_isInside_12 : decode cX12_isInside 12 = .ok (.iload_n 3, 1) := by decide +kernel
theorem dX12_isInside_13 : decode cX12_isInside 13 = .ok (.if_icmp .lt 31, 3) := by decide +kernel
theorem dX12_isInside_16 : decode cX12_isInside 16 = .ok (.iload_n 1, 1) := by decide +kernel
theorem dX12_isInside_17 : decode cX12_isInside 17 = .ok (.iload_n 3, 1) := by decide +kernel
theorem dX12_isInside_18 : decode cX12_isInside 18 = .ok (.iadd, 1) := by decide +kernel
theorem dX12_isInside_19 : decode cX12_isInside 19 = .ok (.aload_n 0, 1) := by decide +kernel
theorem dX12_isInside_20 : decode cX12_isInside 20 = .ok (.getfield 7, 3) := by decide +kernel
theorem dX12_isInside_23 : decode cX12_isInside 23 = .ok (.iconst 0, 1) := by decide +kernel
theorem dX12_isInside_24 : decode cX12_isInside 24 = .ok (.iaload, 1) := by decide +kernel
theorem dX12_isInside_25 : decode cX12_isInside 25 = .ok (.if_icmp .ge 19, 3) := by decide +kernel
theorem dX12_isInside_28 : decode cX12_isInside 28 = .ok (.iload_n 2, 1) := by decide +kernel
theorem dX12_isInside_29 : decode cX12_isInside 29 = .ok (.iload_n 3, 1) := by decide +kernel
theorem dX12_isInside_30 : decode cX12_isInside 30 = .ok (.iadd, 1) := by decide +kernel
theorem dX12_isInside_31 : decode cX12_isInside 31 = .ok (.aload_n 0, 1) := by decide +kernel
theorem dX12_isInside_32 : decode cX12_isInside 32 = .ok (.getfield 7, 3) := by decide +kernel
theorem dX12_isInside_35 : decode cX12_isInside 35 = .ok (.iconst 1, 1) := by decide +kernel
theorem dX12_isInside_36 : decode cX12_isInside 36 = .ok (.iaload, 1) := by decide +kernel
theorem dX12_isInside_37 : decode cX12_isInside 37 = .ok (.if_icmp .ge 7, 3) := by decide +kernel
theorem dX12_isInside_40 : decode cX12_isInside 40 = .ok (.iconst 1, 1) := by decide +kernel
theorem dX12_isInside_41 : decode cX12_isInside 41 = .ok (.goto 4, 3) := by decide +kernel
theorem dX12_isInside_44 : decode cX12_isInside 44 = .ok (.iconst 0, 1) := by decide +kernel
theorem dX12_isInside_45 : decode cX12_isInside 45 = .ok (.ireturn, 1) := by decide +kernel
theorem dX12_mismatch_0 : decode cX12_mismatch 0 = .ok (.aload_n 0, 1) := by decide +kernel
theorem dX12_mismatch_1 : decode cX12_mismatch 1 = .ok (.iconst 0, 1) := by decide +kernel
theorem dX12_mismatch_2 : decode cX12_mismatch 2 = .ok (.invokevirtual 216, 3) := by decide +kernel
theorem dX12_mismatch_5 : decode cX12_mismatch 5 = .ok (.istore 7, 2) := by decide +kernel
theorem dX12_mismatch_7 : decode cX12_mismatch 7 = .ok (.iconst 0, 1) := by decide +kernel
theorem dX12_mismatch_8 : decode cX12_mismatch 8 = .ok (.istore 8, 2) := by decide +kernel
theorem dX12_mismatch_10 : decode cX12_mismatch 10 = .ok (.iload 7, 2) := by decide +kernel
theorem dX12_mismatch_12 : decode cX12_mismatch 12 = .ok (.ineg, 1) := by decide +kernel
theorem dX12_mismatch_13 : decode cX12_mismatch 13 = .ok (.istore 9, 2) := by decide +kernel
theorem dX12_mismatch_15 : decode cX12_mismatch 15 = .ok (.iload 9, 2) := by decide +kernel
theorem dX12_mismatch_17 : decode cX12_mismatch 17 = .ok (.iload 7, 2) := by decide +kernel
theorem dX12_mismatch_19 : decode cX12_mismatch 19 = .ok (.if_icmp .gt 65, 3) := by decide +kernel
theorem dX12_mismatch_22 : decode cX12_mismatch 22 = .ok (.iload 7, 2) := by decide +kernel
theorem dX12_mismatch_24 : decode cX12_mismatch 24 = .ok (.ineg, 1) := by decide +kernel
theorem dX12_mismatch_25 : decode cX12_mismatch 25 = .ok (.istore 10, 2) := by decide +kernel
theorem dX12_mismatch_27 : decode cX12_mismatch 27 = .ok (.iload 10, 2) := by decide +kernel
theorem dX12_mismatch_29 : decode cX12_mismatch 29 = .ok (.iload 7, 2) := by decide +kernel
theorem dX12_mismatch_31 : decode cX12_mismatch 31 = .ok (.if_icmp .gt 47, 3) := by decide +kernel
theorem dX12_mismatch_34 : decode cX12_mismatch 34 = .ok (.iload 8, 2) := by decide +kernel
theorem dX12_mismatch_36 : decode cX12_mismatch 36 = .ok (.aload_n 0, 1) := by decide +kernel
theorem dX12_mismatch_37 : decode cX12_mismatch 37 = .ok (.iload_n 1, 1) := by decide +kernel
theorem dX12_mismatch_38 : decode cX12_mismatch 38 = .ok (.iload_n 2, 1) := by decide +kernel
theorem dX12_mismatch_39 : decode cX12_mismatch 39 = .ok (.iload 10, 2) := by decide +kernel
theorem dX12_mismatch_41 : decode cX12_mismatch 41 = .ok (.iadd, 1) := by decide +kernel
theorem dX12_mismatch_42 : decode cX12_mismatch 42 = .ok (.iload_n 3, 1) := by decide +kernel
theorem dX12_mismatch_43 : decode cX12_mismatch 43 = .ok (.iload 9, 2) := by decide +kernel
theorem dX12_mismatch_45 : decode cX12_mismatch 45 = .ok (.iadd, 1) := by decide +kernel
theorem dX12_mismatch_46 : decode cX12_mismatch 46 = .ok (.invokevirtual 237, 3) := by decide +kernel
theorem dX12_mismatch_49 : decode cX12_mismatch 49 = .ok (.aload_n 0, 1) := by decide +kernel
theorem dX12_mismatch_50 : decode cX12_mismatch 50 = .ok (.iload 4, 2) := by decide +kernel
theorem dX12_mismatch_52 : decode cX12_mismatch 52 = .ok (.iload 5, 2) := by decide +kernel
theorem dX12_mismatch_54 : decode cX12_mismatch 54 = .ok (.iload 10, 2) := by decide +kernel
theorem dX12_mismatch_56 : decode cX12_mismatch 56 = .ok (.iadd, 1) := by decide +kernel
theorem dX12_mismatch_57 : decode cX12_mismatch 57 = .ok (.iload 6, 2) := by decide +kernel
theorem dX12_mismatch_59 : decode cX12_mismatch 59 = .ok (.iload 9, 2) := by decide +kernel
theorem dX12_mismatch_61 : decode cX12_mismatch 61 = .ok (.iadd, 1) := by decide +kernel
theorem dX12_mismatch_62 : decode cX12_mismatch 62 = .ok (.invokevirtual 237, 3) := by decide +kernel
theorem dX12_mismatch_65 : decode cX12_mismatch 65 = .ok (.isub, 1) := by decide +kernel
theorem dX12_mismatch_66 : decode cX12_mismatch 66 = .ok (.invokestatic 253, 3) := by decide +kernel
theorem dX12_mismatch_69 : decode cX12_mismatch 69 = .ok (.iadd, 1) := by decide +kernel
theorem dX12_mismatch_70 : decode cX12_mismatch 70 = .ok (.istore 8, 2) := by decide +kernel
theorem dX12_mismatch_72 : decode cX12_mismatch 72 = .ok (.iinc 10 1, 3) := by decide +kernel
theorem dX12_mismatch_75 : decode cX12_mismatch 75 = .ok (.goto (-48), 3) := by decide +kernel
theorem dX12_mismatch_78 : decode cX12_mismatch 78 = .ok (.iinc 9 1, 3) := by decide +kernel
theorem dX12_mismatch_81 : decode cX12_mismatch 81 = .ok (.goto (-66), 3) := by decide +kernel
theorem dX12_mismatch_84 : decode cX12_mismatch 84 = .ok (.iload 8, 2) := by decide +kernel
theorem dX12_mismatch_86 : decode cX12_mismatch 86 = .ok (.ireturn, 1) := by decide +kernel
theorem dX12_errorOf_0 : decode cX12_errorOf 0 = .ok (.iconst 0, 1) := by decide +kernel
theorem dX12_errorOf_1 : decode cX12_errorOf 1 = .ok (.istore 4, 2) := by decide +kernel
theorem dX12_errorOf_3 : decode cX12_errorOf 3 = .ok (.iconst 0, 1) := by decide +kernel
theorem dX12_errorOf_4 : decode cX12_errorOf 4 = .ok (.istore 5, 2) := by decide +kernel
theorem dX12_errorOf_6 : decode cX12_errorOf 6 = .ok (.iload 5, 2) := by decide +kernel
theorem dX12_errorOf_8 : decode cX12_errorOf 8 = .ok (.aload_n 0, 1) := by decide +kernel
theorem dX12_errorOf_9 : decode cX12_errorOf 9 = .ok (.getfield 7, 3) := by decide +kernel
theorem dX12_errorOf_12 : decode cX12_errorOf 12 = .ok (.iconst 3, 1) := by decide +kernel
theorem dX12_errorOf_13 : decode cX12_errorOf 13 = .ok (.iaload, 1) := by decide +kernel
theorem dX12_errorOf_14 : decode cX12_errorOf 14 = .ok (.if_icmp .ge 93, 3) := by decide +kernel
theorem dX12_errorOf_17 : decode cX12_errorOf 17 = .ok (.aload_n 0, 1) := by decide +kernel
theorem dX12_errorOf_18 : decode cX12_errorOf 18 = .ok (.getfield 7, 3) := by decide +kernel
theorem dX12_errorOf_21 : decode cX12_errorOf 21 = .ok (.bipush 12, 2) := by decide +kernel
theorem dX12_errorOf_23 : decode cX12_errorOf 23 = .ok (.iconst 2, 1) := by decide +kernel
theorem dX12_errorOf_24 : decode cX12_errorOf 24 = .ok (.iload 5, 2) := by decide +kernel
theorem dX12_errorOf_26 : decode cX12_errorOf 26 = .ok (.imul, 1) := by decide +kernel
theorem dX12_errorOf_27 : decode cX12_errorOf 27 = .ok (.iadd, 1) := by decide +kernel
theorem dX12_errorOf_28 : decode cX12_errorOf 28 = .ok (.iaload, 1) := by decide +kernel
theorem dX12_errorOf_29 : decode cX12_errorOf 29 = .ok (.istore 6, 2) := by decide +kernel
theorem dX12_errorOf_31 : decode cX12_errorOf 31 = .ok (.aload_n 0, 1) := by decide +kernel
theorem dX12_errorOf_32 : decode cX12_errorOf 32 = .ok (.getfield 7, 3) := by decide +kernel
theorem dX12_errorOf_35 : decode cX12_errorOf 35 = .ok (.bipush 12, 2) := by decide +kernel
theorem dX12_errorOf_37 : decode cX12_errorOf 37 = .ok (.iconst 2, 1) := by decide +kernel
theorem dX12_errorOf_38 : decode cX12_errorOf 38 = .ok (.iload 5, 2) := by decide +kernel
theorem dX12_errorOf_40 : decode cX12_errorOf 40 = .ok (.imul, 1) := by decide +kernel
theorem dX12_errorOf_41 : decode cX12_errorOf 41 = .ok (.iadd, 1) := by decide +kernel
theorem dX12_errorOf_42 : decode cX12_errorOf 42 = .ok (.iconst 1, 1) := by decide +kernel
theorem dX12_errorOf_43 : decode cX12_errorOf 43 = .ok (.iadd, 1) := by decide +kernel
theorem dX12_errorOf_44 : decode cX12_errorOf 44 = .ok (.iaload, 1) := by decide +kernel
theorem dX12_errorOf_45 : decode cX12_errorOf 45 = .ok (.istore 7, 2) := by decide +kernel
theorem dX12_errorOf_47 : decode cX12_errorOf 47 = .ok (.aload_n 0, 1) := by decide +kernel
theorem dX12_errorOf_48 : decode cX12_errorOf 48 = .ok (.iload 6, 2) := by decide +kernel
theorem dX12_errorOf_50 : decode cX12_errorOf 50 = .ok (.iload 7, 2) := by decide +kernel
theorem dX12_errorOf_52 : decode cX12_errorOf 52 = .ok (.invokevirtual 256, 3) := by decide +kernel
theorem dX12_errorOf_55 : decode cX12_errorOf 55 = .ok (.ifCond .eq 18, 3) := by decide +kernel
theorem dX12_errorOf_58 : decode cX12_errorOf 58 = .ok (.aload_n 0, 1) := by decide +kernel
theorem dX12_errorOf_59 : decode cX12_errorOf 59 = .ok (.iload 6, 2) := by decide +kernel
theorem dX12_errorOf_61 : decode cX12_errorOf 61 = .ok (.iload_n 2, 1) := by decide +kernel
theorem dX12_errorOf_62 : decode cX12_errorOf 62 = .ok (.iadd, 1) := by decide +kernel
theorem dX12_errorOf_63 : decode cX12_errorOf 63 = .ok (.iload 7, 2) := by decide +kernel
theorem dX12_errorOf_65 : decode cX12_errorOf 65 = .ok (.iload_n 3, 1) := by decide +kernel
theorem dX12_errorOf_66 : decode cX12_errorOf 66 = .ok (.iadd, 1) := by decide +kernel
theorem dX12_errorOf_67 : decode cX12_errorOf 67 = .ok (.invokevirtual 256, 3) := by decide +kernel
theorem dX12_errorOf_70 : decode cX12_errorOf 70 = .ok (.ifCond .ne 5, 3) := by decide +kernel
theorem dX12_errorOf_73 : decode cX12_errorOf 73 = .ok (.iconst (-1), 1) := by decide +kernel
theorem dX12_errorOf_74 : decode cX12_errorOf 74 = .ok (.ireturn, 1) := by decide +kernel
theorem dX12_errorOf_75 : decode cX12_errorOf 75 = .ok (.iload 4, 2) := by decide +kernel
theorem dX12_errorOf_77 : decode cX12_errorOf 77 = .ok (.aload_n 0, 1) := by decide +kernel
theorem dX12_errorOf_78 : decode cX12_errorOf 78 = .ok (.aload_n 0, 1) := by decide +kernel
theorem dX12_errorOf_79 : decode cX12_errorOf 79 = .ok (.getfield 259, 3) := by decide +kernel
theorem dX12_errorOf_82 : decode cX12_errorOf 82 = .ok (.iload 6, 2) := by decide +kernel
theorem dX12_errorOf_84 : decode cX12_errorOf 84 = .ok (.iload 7, 2) := by decide +kernel
theorem dX12_errorOf_86 : decode cX12_errorOf 86 = .ok (.iload_n 1, 1) := by decide +kernel
theorem dX12_errorOf_87 : decode cX12_errorOf 87 = .ok (.iload 6, 2) := by decide +kernel
theorem dX12_errorOf_89 : decode cX12_errorOf 89 = .ok (.iload_n 2, 1) := by decide +kernel
theorem dX12_errorOf_90 : decode cX12_errorOf 90 = .ok (.iadd, 1) := by decide +kernel
theorem dX12_errorOf_91 : decode cX12_errorOf 91 = .ok (.iload 7, 2) := by decide +kernel
theorem dX12_errorOf_93 : decode cX12_errorOf 93 = .ok (.iload_n 3, 1) := by decide +kernel
theorem dX12_errorOf_94 : decode cX12_errorOf 94 = .ok (.iadd, 1) := by decide +kernel
theorem dX12_errorOf_95 : decode cX12_errorOf 95 = .ok (.invokevirtual 262, 3) := by decide +kernel
theorem dX12_errorOf_98 : decode cX12_errorOf 98 = .ok (.iadd, 1) := by decide +kernel
theorem dX12_errorOf_99 : decode cX12_errorOf 99 = .ok (.istore 4, 2) := by decide +kernel
theorem dX12_errorOf_101 : decode cX12_errorOf 101 = .ok (.iinc 5 1, 3) := by decide +kernel
theorem dX12_errorOf_104 : decode cX12_errorOf 104 = .ok (.goto (-98), 3) := by decide +kernel
theorem dX12_errorOf_107 : decode cX12_errorOf 107 = .ok (.iload 4, 2) := by decide +kernel
theorem dX12_errorOf_109 : decode cX12_errorOf 109 = .ok (.ireturn, 1) := by decide +kernel
theorem dX12_orientBySearch_0 : decode cX12_orientBySearch 0 = .ok (.aload_n 0, 1) := by decide +kernel
theorem dX12_orientBySearch_1 : decode cX12_orientBySearch 1 = .ok (.iconst 2, 1) := by decide +kernel
theorem dX12_orientBySearch_2 : decode cX12_orientBySearch 2 = .ok (.invokevirtual 216, 3) := by decide +kernel
theorem dX12_orientBySearch_5 : decode cX12_orientBySearch 5 = .ok (.istore_n 2, 1) := by decide +kernel
theorem dX12_orientBySearch_6 : decode cX12_orientBySearch 6 = .ok (.iconst 0, 1) := by decide +kernel
theorem dX12_orientBySearch_7 : decode cX12_orientBySearch 7 = .ok (.istore_n 3, 1) := by decide +kernel
theorem dX12_orientBySearch_8 : decode cX12_orientBySearch 8 = .ok (.aload_n 0, 1) := by decide +kernel
theorem dX12_orientBySearch_9 : decode cX12_orientBySearch 9 = .ok (.getfield 27, 3) := by decide +kernel
theorem dX12_orientBySearch_12 : decode cX12_orientBySearch 12 = .ok (.iload_n 1, 1) := by decide +kernel
theorem dX12_orientBySearch_13 : decode cX12_orientBySearch 13 = .ok (.iconst 0, 1) := by decide +kernel
theorem dX12_orientBySearch_14 : decode cX12_orientBySearch 14 = .ok (.bastore, 1) := by decide +kernel
theorem dX12_orientBySearch_15 : decode cX12_orientBySearch 15 = .ok (.iload_n 2, 1) := by decide +kernel
theorem dX12_orientBySearch_16 : decode cX12_orientBySearch 16 = .ok (.ineg, 1) := by decide +kernel
theorem dX12_orientBySearch_17 : decode cX12_orientBySearch 17 = .ok (.istore 4, 2) := by decide +kernel
theorem dX12_orientBySearch_19 : decode cX12_orientBySearch 19 = .ok (.iload 4, 2) := by decide +kernel
theorem dX12_orientBySearch_21 : decode cX12_orientBySearch 21 = .ok (.iload_n 2, 1) := by decide +kernel
theorem dX12_orientBySearch_22 : decode cX12_orientBySearch 22 = .ok (.if_icmp .gt 131, 3) := by decide +kernel
theorem dX12_orientBySearch_25 : decode cX12_orientBySearch 25 = .ok (.iload_n 2, 1) := by decide +kernel
theorem dX12_orientBySearch_26 : decode cX12_orientBySearch 26 = .ok (.ineg, 1) := by decide +kernel
theorem dX12_orientBySearch_27 : decode cX12_orientBySearch 27 = .ok (.istore 5, 2) := by decide +kernel
theorem dX12_orientBySearch_29 : decode cX12_orientBySearch 29 = .ok (.iload 5, 2) := by decide +kernel
theorem dX12_orientBySearch_31 : decode cX12_orientBySearch 31 = .ok (.iload_n 2, 1) := by decide +kernel
theorem dX12_orientBySearch_32 : decode cX12_orientBySearch 32 = .ok (.if_icmp .gt 115, 3) := by decide +kernel
theorem dX12_orientBySearch_35 : decode cX12_orientBySearch 35 = .ok (.aload_n 0, 1) := by decide +kernel
theorem dX12_orientBySearch_36 : decode cX12_orientBySearch 36 = .ok (.iload_n 1, 1) := by decide +kernel
theorem dX12_orientBySearch_37 : decode cX12_orientBySearch 37 = .ok (.iload 5, 2) := by decide +kernel
theorem dX12_orientBySearch_39 : decode cX12_orientBySearch 39 = .ok (.iload 4, 2) := by decide +kernel
theorem dX12_orientBySearch_41 : decode cX12_orientBySearch 41 = .ok (.invokevirtual 266, 3) := by decide +kernel
theorem dX12_orientBySearch_44 : decode cX12_orientBySearch 44 = .ok (.istore 6, 2) := by decide +kernel
theorem dX12_orientBySearch_46 : decode cX12_orientBySearch 46 = .ok (.iload 5, 2) := by decide +kernel
theorem dX12_orientBySearch_48 : decode cX12_orientBySearch 48 = .ok (.invokestatic 253, 3) := by decide +kernel
theorem dX12_orientBySearch_51 : decode cX12_orientBySearch 51 = .ok (.iload 4, 2) := by decide +kernel
theorem dX12_orientBySearch_53 : decode cX12_orientBySearch 53 = .ok (.invokestatic 253, 3) := by decide +kernel
theorem dX12_orientBySearch_56 : decode cX12_orientBySearch 56 = .ok (.iadd, 1) := by decide +kernel
theorem dX12_orientBySearch_57 : decode cX12_orientBySearch 57 = .ok (.istore 7, 2) := by decide +kernel
theorem dX12_orientBySearch_59 : decode cX12_orientBySearch 59 = .ok (.iload 6, 2) := by decide +kernel
theorem dX12_orientBySearch_61 : decode cX12_orientBySearch 61 = .ok (.ifCond .ge 6, 3) := by decide +kernel
theorem dX12_orientBySearch_64 : decode cX12_orientBySearch 64 = .ok (.goto 77, 3) := by decide +kernel
theorem dX12_orientBySearch_67 : decode cX12_orientBySearch 67 = .ok (.aload_n 0, 1) := by decide +kernel
theorem dX12_orientBySearch_68 : decode cX12_orientBySearch 68 = .ok (.getfield 27, 3) := by decide +kernel
theorem dX12_orientBySearch_71 : decode cX12_orientBySearch 71 = .ok (.iload_n 1, 1) := by decide +kernel
theorem dX12_orientBySearch_72 : decode cX12_orientBySearch 72 = .ok (.baload, 1) := by decide +kernel
theorem dX12_orientBySearch_73 : decode cX12_orientBySearch 73 = .ok (.ifCond .eq 34, 3) := by decide +kernel
theorem dX12_orientBySearch_76 : decode cX12_orientBySearch 76 = .ok (.iload 6, 2) := by decide +kernel
theorem dX12_orientBySearch_78 : decode cX12_orientBySearch 78 = .ok (.aload_n 0, 1) := by decide +kernel
theorem dX12_orientBySearch_79 : decode cX12_orientBySearch 79 = .ok (.getfield 37, 3) := by decide +kernel
theorem dX12_orientBySearch_82 : decode cX12_orientBySearch 82 = .ok (.iload_n 1, 1) := by decide +kernel
theorem dX12_orientBySearch_83 : decode cX12_orientBySearch 83 = .ok (.iaload, 1) := by decide +kernel
theorem dX12_orientBySearch_84 : decode cX12_orientBySearch 84 = .ok (.if_icmp .gt 57, 3) := by decide +kernel
theorem dX12_orientBySearch_87 : decode cX12_orientBySearch 87 = .ok (.iload 6, 2) := by decide +kernel
theorem dX12_orientBySearch_89 : decode cX12_orientBySearch 89 = .ok (.aload_n 0, 1) := by decide +kernel
theorem dX12_orientBySearch_90 : decode cX12_orientBySearch 90 = .ok (.getfield 37, 3) := by decide +kernel
theorem dX12_orientBySearch_93 : decode cX12_orientBySearch 93 = .ok (.iload_n 1, 1) := by decide +kernel
theorem dX12_orientBySearch_94 : decode cX12_orientBySearch 94 = .ok (.iaload, 1) := by decide +kernel
theorem dX12_orientBySearch_95 : decode cX12_orientBySearch 95 = .ok (.if_icmp .ne 12, 3) := by decide +kernel
theorem dX12_orientBySearch_98 : decode cX12_orientBySearch 98 = .ok (.iload 7, 2) := by decide +kernel
theorem dX12_orientBySearch_100 : decode cX12_orientBySearch 100 = .ok (.iload_n 3, 1) := by decide +kernel
theorem dX12_orientBySearch_101 : decode cX12_orientBySearch 101 = .ok (.if_icmp .lt 6, 3) := by decide +kernel
theorem dX12_orientBySearch_104 : decode cX12_orientBySearch 104 = .ok (.goto 37, 3) := by decide +kernel
theorem dX12_orientBySearch_107 : decode cX12_orientBySearch 107 = .ok (.aload_n 0, 1) := by decide +kernel
theorem dX12_orientBySearch_108 : decode cX12_orientBySearch 108 = .ok (.getfield 27, 3) := by decide +kernel
theorem dX12_orientBySearch_111 : decode cX12_orientBySearch 111 = .ok (.iload_n 1, 1) := by decide +kernel
theorem dX12_orientBySearch_112 : decode cX12_orientBySearch 112 = .ok (.iconst 1, 1) := by decide +kernel
theorem dX12_orientBySearch_113 : decode cX12_orientBySearch 113 = .ok (.bastore, 1) := by decide +kernel
theorem dX12_orientBySearch_114 : decode cX12_orientBySearch 114 = .ok (.aload_n 0, 1) := by decide +kernel
theorem dX12_orientBySearch_115 : decode cX12_orientBySearch 115 = .ok (.getfield 37, 3) := by decide +kernel
theorem dX12_orientBySearch_118 : decode cX12_orientBySearch 118 = .ok (.iload_n 1, 1) := by decide +kernel
theorem dX12_orientBySearch_119 : decode cX12_orientBySearch 119 = .ok (.iload 6, 2) := by decide +kernel
theorem dX12_orientBySearch_121 : decode cX12_orientBySearch 121 = .ok (.iastore, 1) := by decide +kernel
theorem dX12_orientBySearch_122 : decode cX12_orientBySearch 122 = .ok (.aload_n 0, 1) := by decide +kernel
theorem dX12_orientBySearch_123 : decode cX12_orientBySearch 123 = .ok (.getfield 31, 3) := by decide +kernel
theorem dX12_orientBySearch_126 : decode cX12_orientBySearch 126 = .ok (.iload_n 1, 1) := by decide +kernel
theorem dX12_orientBySearch_127 : decode cX12_orientBySearch 127 = .ok (.iload 5, 2) := by decide +kernel
theorem dX12_orientBySearch_129 : decode cX12_orientBySearch 129 = .ok (.iastore, 1) := by decide +kernel
theorem dX12_orientBySearch_130 : decode cX12_orientBySearch 130 = .ok (.aload_n 0, 1) := by decide +kernel
theorem dX12_orientBySearch_131 : decode cX12_orientBySearch 131 = .ok (.getfield 34, 3) := by decide +kernel
theorem dX12_orientBySearch_134 : decode cX12_orientBySearch 134 = .ok (.iload_n 1, 1) := by decide +kernel
theorem dX12_orientBySearch_135 : decode cX12_orientBySearch 135 = .ok (.iload 4, 2) := by decide +kernel
theorem dX12_orientBySearch_137 : decode cX12_orientBySearch 137 = .ok (.iastore, 1) := by decide +kernel
theorem dX12_orientBySearch_138 : decode cX12_orientBySearch 138 = .ok (.iload 7, 2) := by decide +kernel
theorem dX12_orientBySearch_140 : decode cX12_orientBySearch 140 = .ok (.istore_n 3, 1) := by decide +kernel
theorem dX12_orientBySearch_141 : decode cX12_orientBySearch 141 = .ok (.iinc 5 1, 3) := by decide +kernel
theorem dX12_orientBySearch_144 : decode cX12_orientBySearch 144 = .ok (.goto (-115), 3) := by decide +kernel
theorem dX12_orientBySearch_147 : decode cX12_orientBySearch 147 = .ok (.iinc 4 1, 3) := by decide +kernel
theorem dX12_orientBySearch_150 : decode cX12_orientBySearch 150 = .ok (.goto (-131), 3) := by decide +kernel
theorem dX12_orientBySearch_153 : decode cX12_orientBySearch 153 = .ok (.return_, 1) := by decide +kernel
theorem dX12_orient_0 : decode cX12_orient 0 = .ok (.aload_n 0, 1) := by decide +kernel
theorem dX12_orient_1 : decode cX12_orient 1 = .ok (.aload_n 0, 1) := by decide +kernel
theorem dX12_orient_2 : decode cX12_orient 2 = .ok (.invokevirtual 250, 3) := by decide +kernel
theorem dX12_orient_5 : decode cX12_orient 5 = .ok (.putfield 259, 3) := by decide +kernel
theorem dX12_orient_8 : decode cX12_orient 8 = .ok (.iconst 0, 1) := by decide +kernel
theorem dX12_orient_9 : decode cX12_orient 9 = .ok (.istore_n 1, 1) := by decide +kernel
theorem dX12_orient_10 : decode cX12_orient 10 = .ok (.iload_n 1, 1) := by decide +kernel
theorem dX12_orient_11 : decode cX12_orient 11 = .ok (.aload_n 0, 1) := by decide +kernel
theorem dX12_orient_12 : decode cX12_orient 12 = .ok (.getfield 7, 3) := by decide +kernel
theorem dX12_orient_15 : decode cX12_orient 15 = .ok (.iconst 2, 1) := by decide +kernel
theorem dX12_orient_16 : decode cX12_orient 16 = .ok (.iaload, 1) := by decide +kernel
theorem dX12_orient_17 : decode cX12_orient 17 = .ok (.if_icmp .ge 70, 3) := by decide +kernel
theorem dX12_orient_20 : decode cX12_orient 20 = .ok (.aload_n 0, 1) := by decide +kernel
theorem dX12_orient_21 : decode cX12_orient 21 = .ok (.getfield 27, 3) := by decide +kernel
theorem dX12_orient_24 : decode cX12_orient 24 = .ok (.iload_n 1, 1) := by decide +kernel
theorem dX12_orient_25 : decode cX12_orient 25 = .ok (.iload_n 1, 1) := by decide +kernel
theorem dX12_orient_26 : decode cX12_orient 26 = .ok (.aload_n 0, 1) := by decide +kernel
theorem dX12_orient_27 : decode cX12_orient 27 = .ok (.getfield 259, 3) := by decide +kernel
theorem dX12_orient_30 : decode cX12_orient 30 = .ok (.if_icmp .ne 7, 3) := by decide +kernel
theorem dX12_orient_33 : decode cX12_orient 33 = .ok (.iconst 1, 1) := by decide +kernel
theorem dX12_orient_34 : decode cX12_orient 34 = .ok (.goto 4, 3) := by decide +kernel
theorem dX12_orient_37 : decode cX12_orient 37 = .ok (.iconst 0, 1) := by decide +kernel
theorem dX12_orient_38 : decode cX12_orient 38 = .ok (.bastore, 1) := by decide +kernel
theorem dX12_orient_39 : decode cX12_orient 39 = .ok (.aload_n 0, 1) := by decide +kernel
theorem dX12_orient_40 : decode cX12_orient 40 = .ok (.getfield 31, 3) := by decide +kernel
theorem dX12_orient_43 : decode cX12_orient 43 = .ok (.iload_n 1, 1) := by decide +kernel
theorem dX12_orient_44 : decode cX12_orient 44 = .ok (.iconst 0, 1) := by decide +kernel
theorem dX12_orient_45 : decode cX12_orient 45 = .ok (.iastore, 1) := by decide +kernel
theorem dX12_orient_46 : decode cX12_orient 46 = .ok (.aload_n 0, 1) := by decide +kernel
theorem dX12_orient_47 : decode cX12_orient 47 = .ok (.getfield 34, 3) := by decide +kernel
theorem dX12_orient_50 : decode cX12_orient 50 = .ok (.iload_n 1, 1) := by decide +kernel
theorem dX12_orient_51 : decode cX12_orient 51 = .ok (.iconst 0, 1) := by decide +kernel
theorem dX12_orient_52 : decode cX12_orient 52 = .ok (.iastore, 1) := by decide +kernel
theorem dX12_orient_53 : decode cX12_orient 53 = .ok (.aload_n 0, 1) := by decide +kernel
theorem dX12_orient_54 : decode cX12_orient 54 = .ok (.getfield 37, 3) := by decide +kernel
theorem dX12_orient_57 : decode cX12_orient 57 = .ok (.iload_n 1, 1) := by decide +kernel
theorem dX12_orient_58 : decode cX12_orient 58 = .ok (.iconst 0, 1) := by decide +kernel
theorem dX12_orient_59 : decode cX12_orient 59 = .ok (.iastore, 1) := by decide +kernel
theorem dX12_orient_60 : decode cX12_orient 60 = .ok (.iload_n 1, 1) := by decide +kernel
theorem dX12_orient_61 : decode cX12_orient 61 = .ok (.aload_n 0, 1) := by decide +kernel
theorem dX12_orient_62 : decode cX12_orient 62 = .ok (.getfield 259, 3) := by decide +kernel
theorem dX12_orient_65 : decode cX12_orient 65 = .ok (.if_icmp .eq 16, 3) := by decide +kernel
theorem dX12_orient_68 : decode cX12_orient 68 = .ok (.aload_n 0, 1) := by decide +kernel
theorem dX12_orient_69 : decode cX12_orient 69 = .ok (.iload_n 1, 1) := by decide +kernel
theorem dX12_orient_70 : decode cX12_orient 70 = .ok (.invokevirtual 247, 3) := by decide +kernel
theorem dX12_orient_73 : decode cX12_orient 73 = .ok (.ifCond .eq 8, 3) := by decide +kernel
theorem dX12_orient_76 : decode cX12_orient 76 = .ok (.aload_n 0, 1) := by decide +kernel
theorem dX12_orient_77 : decode cX12_orient 77 = .ok (.iload_n 1, 1) := by decide +kernel
theorem dX12_orient_78 : decode cX12_orient 78 = .ok (.invokevirtual 269, 3) := by decide +kernel
theorem dX12_orient_81 : decode cX12_orient 81 = .ok (.iinc 1 1, 3) := by decide +kernel
theorem dX12_orient_84 : decode cX12_orient 84 = .ok (.goto (-74), 3) := by decide +kernel
theorem dX12_orient_87 : decode cX12_orient 87 = .ok (.return_, 1) := by decide +kernel
theorem dX12_noFrame_0 : decode cX12_noFrame 0 = .ok (.aload_n 0, 1) := by decide +kernel
theorem dX12_noFrame_1 : decode cX12_noFrame 1 = .ok (.invokevirtual 272, 3) := by decide +kernel
theorem dX12_noFrame_4 : decode cX12_noFrame 4 = .ok (.aload_n 0, 1) := by decide +kernel
theorem dX12_noFrame_5 : decode cX12_noFrame 5 = .ok (.aload_n 0, 1) := by decide +kernel
theorem dX12_noFrame_6 : decode cX12_noFrame 6 = .ok (.iload_n 1, 1) := by decide +kernel
theorem dX12_noFrame_7 : decode cX12_noFrame 7 = .ok (.invokevirtual 222, 3) := by decide +kernel
theorem dX12_noFrame_10 : decode cX12_noFrame 10 = .ok (.invokevirtual 226, 3) := by decide +kernel
theorem dX12_noFrame_13 : decode cX12_noFrame 13 = .ok (.ireturn, 1) := by decide +kernel
theorem dX12_isOriented_0 : decode cX12_isOriented 0 = .ok (.aload_n 0, 1) := by decide +kernel
theorem dX12_isOriented_1 : decode cX12_isOriented 1 = .ok (.iload_n 1, 1) := by decide +kernel
theorem dX12_isOriented_2 : decode cX12_isOriented 2 = .ok (.invokevirtual 275, 3) := by decide +kernel
theorem dX12_isOriented_5 : decode cX12_isOriented 5 = .ok (.ifCond .ne 16, 3) := by decide +kernel
theorem dX12_isOriented_8 : decode cX12_isOriented 8 = .ok (.aload_n 0, 1) := by decide +kernel
theorem dX12_isOriented_9 : decode cX12_isOriented 9 = .ok (.getfield 27, 3) := by decide +kernel
theorem dX12_isOriented_12 : decode cX12_isOriented 12 = .ok (.iload_n 1, 1) := by decide +kernel
theorem dX12_isOriented_13 : decode cX12_isOriented 13 = .ok (.baload, 1) := by decide +kernel
theorem dX12_isOriented_14 : decode cX12_isOriented 14 = .ok (.ifCond .eq 7, 3) := by decide +kernel
theorem dX12_isOriented_17 : decode cX12_isOriented 17 = .ok (.iconst 1, 1) := by decide +kernel
theorem dX12_isOriented_18 : decode cX12_isOriented 18 = .ok (.goto 4, 3) := by decide +kernel
theorem dX12_isOriented_21 : decode cX12_isOriented 21 = .ok (.iconst 0, 1) := by decide +kernel
theorem dX12_isOriented_22 : decode cX12_isOriented 22 = .ok (.ireturn, 1) := by decide +kernel
theorem dX12_noShift_0 : decode cX12_noShift 0 = .ok (.aload_n 0, 1) := by decide +kernel
theorem dX12_noShift_1 : decode cX12_noShift 1 = .ok (.iload_n 1, 1) := by decide +kernel
theorem dX12_noShift_2 : decode cX12_noShift 2 = .ok (.invokevirtual 275, 3) := by decide +kernel
theorem dX12_noShift_5 : decode cX12_noShift 5 = .ok (.ifCond .eq 5, 3) := by decide +kernel
theorem dX12_noShift_8 : decode cX12_noShift 8 = .ok (.iconst 1, 1) := by decide +kernel
theorem dX12_noShift_9 : decode cX12_noShift 9 = .ok (.ireturn, 1) := by decide +kernel
theorem dX12_noShift_10 : decode cX12_noShift 10 = .ok (.aload_n 0, 1) := by decide +kernel
theorem dX12_noShift_11 : decode cX12_noShift 11 = .ok (.aload_n 0, 1) := by decide +kernel
theorem dX12_noShift_12 : decode cX12_noShift 12 = .ok (.getfield 27, 3) := by decide +kernel
theorem dX12_noShift_15 : decode cX12_noShift 15 = .ok (.iload_n 1, 1) := by decide +kernel
theorem dX12_noShift_16 : decode cX12_noShift 16 = .ok (.baload, 1) := by decide +kernel
theorem dX12_noShift_17 : decode cX12_noShift 17 = .ok (.ifCond .eq 7, 3) := by decide +kernel
theorem dX12_noShift_20 : decode cX12_noShift 20 = .ok (.iconst 0, 1) := by decide +kernel
theorem dX12_noShift_21 : decode cX12_noShift 21 = .ok (.goto 4, 3) := by decide +kernel
theorem dX12_noShift_24 : decode cX12_noShift 24 = .ok (.iconst 2, 1) := by decide +kernel
theorem dX12_noShift_25 : decode cX12_noShift 25 = .ok (.putfield 83, 3) := by decide +kernel
theorem dX12_noShift_28 : decode cX12_noShift 28 = .ok (.aload_n 0, 1) := by decide +kernel
theorem dX12_noShift_29 : decode cX12_noShift 29 = .ok (.getfield 83, 3) := by decide +kernel
theorem dX12_noShift_32 : decode cX12_noShift 32 = .ok (.ifCond .le 7, 3) := by decide +kernel
theorem dX12_noShift_35 : decode cX12_noShift 35 = .ok (.iconst 1, 1) := by decide +kernel
theorem dX12_noShift_36 : decode cX12_noShift 36 = .ok (.goto 4, 3) := by decide +kernel
theorem dX12_noShift_39 : decode cX12_noShift 39 = .ok (.iconst 0, 1) := by decide +kernel
theorem dX12_noShift_40 : decode cX12_noShift 40 = .ok (.ireturn, 1) := by decide +kernel
theorem dX12_shiftX_0 : decode cX12_shiftX 0 = .ok (.aload_n 0, 1) := by decide +kernel
theorem dX12_shiftX_1 : decode cX12_shiftX 1 = .ok (.iload_n 1, 1) := by decide +kernel
theorem dX12_shiftX_2 : decode cX12_shiftX 2 = .ok (.invokevirtual 278, 3) := by decide +kernel
theorem dX12_shiftX_5 : decode cX12_shiftX 5 = .ok (.ifCond .eq 7, 3) := by decide +kernel
theorem dX12_shiftX_8 : decode cX12_shiftX 8 = .ok (.iconst 0, 1) := by decide +kernel
theorem dX12_shiftX_9 : decode cX12_shiftX 9 = .ok (.goto 9, 3) := by decide +kernel
theorem dX12_shiftX_12 : decode cX12_shiftX 12 = .ok (.aload_n 0, 1) := by decide +kernel
theorem dX12_shiftX_13 : decode cX12_shiftX 13 = .ok (.getfield 31, 3) := by decide +kernel
theorem dX12_shiftX_16 : decode cX12_shiftX 16 = .ok (.iload_n 1, 1) := by decide +kernel
theorem dX12_shiftX_17 : decode cX12_shiftX 17 = .ok (.iaload, 1) := by decide +kernel
theorem dX12_shiftX_18 : decode cX12_shiftX 18 = .ok (.ireturn, 1) := by decide +kernel
theorem dX12_shiftY_0 : decode cX12_shiftY 0 = .ok (.aload_n 0, 1) := by decide +kernel
theorem dX12_shiftY_1 : decode cX12_shiftY 1 = .ok (.iload_n 1, 1) := by decide +kernel
theorem dX12_shiftY_2 : decode cX12_shiftY 2 = .ok (.invokevirtual 278, 3) := by decide +kernel
theorem dX12_shiftY_5 : decode cX12_shiftY 5 = .ok (.ifCond .eq 7, 3) := by decide +kernel
theorem dX12_shiftY_8 : decode cX12_shiftY 8 = .ok (.iconst 0, 1) := by decide +kernel
theorem dX12_shiftY_9 : decode cX12_shiftY 9 = .ok (.goto 9, 3) := by decide +kernel
theorem dX12_shiftY_12 : decode cX12_shiftY 12 = .ok (.aload_n 0, 1) := by decide +kernel
theorem dX12_shiftY_13 : decode cX12_shiftY 13 = .ok (.getfield 34, 3) := by decide +kernel
theorem dX12_shiftY_16 : decode cX12_shiftY 16 = .ok (.iload_n 1, 1) := by decide +kernel
theorem dX12_shiftY_17 : decode cX12_shiftY 17 = .ok (.iaload, 1) := by decide +kernel
theorem dX12_shiftY_18 : decode cX12_shiftY 18 = .ok (.ireturn, 1) := by decide +kernel
theorem dX12_shiftError_0 : decode cX12_shiftError 0 = .ok (.aload_n 0, 1) := by decide +kernel
theorem dX12_shiftError_1 : decode cX12_shiftError 1 = .ok (.iload_n 1, 1) := by decide +kernel
theorem dX12_shiftError_2 : decode cX12_shiftError 2 = .ok (.invokevirtual 275, 3) := by decide +kernel
theorem dX12_shiftError_5 : decode cX12_shiftError 5 = .ok (.ifCond .eq 7, 3) := by decide +kernel
theorem dX12_shiftError_8 : decode cX12_shiftError 8 = .ok (.iconst 0, 1) := by decide +kernel
theorem dX12_shiftError_9 : decode cX12_shiftError 9 = .ok (.goto 22, 3) := by decide +kernel
theorem dX12_shiftError_12 : decode cX12_shiftError 12 = .ok (.aload_n 0, 1) := by decide +kernel
theorem dX12_shiftError_13 : decode cX12_shiftError 13 = .ok (.getfield 27, 3) := by decide +kernel
theorem dX12_shiftError_16 : decode cX12_shiftError 16 = .ok (.iload_n 1, 1) := by decide +kernel
theorem dX12_shiftError_17 : decode cX12_shiftError 17 = .ok (.baload, 1) := by decide +kernel
theorem dX12_shiftError_18 : decode cX12_shiftError 18 = .ok (.ifCond .eq 12, 3) := by decide +kernel
theorem dX12_shiftError_21 : decode cX12_shiftError 21 = .ok (.aload_n 0, 1) := by decide +kernel
theorem dX12_shiftError_22 : decode cX12_shiftError 22 = .ok (.getfield 37, 3) := by decide +kernel
theorem dX12_shiftError_25 : decode cX12_shiftError 25 = .ok (.iload_n 1, 1) := by decide +kernel
theorem dX12_shiftError_26 : decode cX12_shiftError 26 = .ok (.iaload, 1) := by decide +kernel
theorem dX12_shiftError_27 : decode cX12_shiftError 27 = .ok (.goto 4, 3) := by decide +kernel
theorem dX12_shiftError_30 : decode cX12_shiftError 30 = .ok (.iconst (-1), 1) := by decide +kernel
theorem dX12_shiftError_31 : decode cX12_shiftError 31 = .ok (.ireturn, 1) := by decide +kernel
theorem dX12_search_0 : decode cX12_search 0 = .ok (.aload_n 0, 1) := by decide +kernel
theorem dX12_search_1 : decode cX12_search 1 = .ok (.iconst (-1), 1) := by decide +kernel
theorem dX12_search_2 : decode cX12_search 2 = .ok (.putfield 281, 3) := by decide +kernel
theorem dX12_search_5 : decode cX12_search 5 = .ok (.aload_n 0, 1) := by decide +kernel
theorem dX12_search_6 : decode cX12_search 6 = .ok (.iconst (-1), 1) := by decide +kernel
theorem dX12_search_7 : decode cX12_search 7 = .ok (.putfield 284, 3) := by decide +kernel
theorem dX12_search_10 : decode cX12_search 10 = .ok (.aload_n 0, 1) := by decide +kernel
theorem dX12_search_11 : decode cX12_search 11 = .ok (.iload_n 2, 1) := by decide +kernel
theorem dX12_search_12 : decode cX12_search 12 = .ok (.iload_n 3, 1) := by decide +kernel
theorem dX12_search_13 : decode cX12_search 13 = .ok (.invokevirtual 256, 3) := by decide +kernel
theorem dX12_search_16 : decode cX12_search 16 = .ok (.ifCond .ne 5, 3) := by decide +kernel
theorem dX12_search_19 : decode cX12_search 19 = .ok (.iconst 0, 1) := by decide +kernel
theorem dX12_search_20 : decode cX12_search 20 = .ok (.ireturn, 1) := by decide +kernel
theorem dX12_search_21 : decode cX12_search 21 = .ok (.iload_n 2, 1) := by decide +kernel
theorem dX12_search_22 : decode cX12_search 22 = .ok (.aload_n 0, 1) := by decide +kernel
theorem dX12_search_23 : decode cX12_search 23 = .ok (.getfield 31, 3) := by decide +kernel
theorem dX12_search_26 : decode cX12_search 26 = .ok (.iload 4, 2) := by decide +kernel
theorem dX12_search_28 : decode cX12_search 28 = .ok (.iaload, 1) := by decide +kernel
theorem dX12_search_29 : decode cX12_search 29 = .ok (.iadd, 1) := by decide +kernel
theorem dX12_search_30 : decode cX12_search 30 = .ok (.aload_n 0, 1) := by decide +kernel
theorem dX12_search_31 : decode cX12_search 31 = .ok (.getfield 31, 3) := by decide +kernel
theorem dX12_search_34 : decode cX12_search 34 = .ok (.iload_n 1, 1) := by decide +kernel
theorem dX12_search_35 : decode cX12_search 35 = .ok (.iaload, 1) := by decide +kernel
theorem dX12_search_36 : decode cX12_search 36 = .ok (.isub, 1) := by decide +kernel
theorem dX12_search_37 : decode cX12_search 37 = .ok (.istore 5, 2) := by decide +kernel
theorem dX12_search_39 : decode cX12_search 39 = .ok (.iload_n 3, 1) := by decide +kernel
theorem dX12_search_40 : decode cX12_search 40 = .ok (.aload_n 0, 1) := by decide +kernel
theorem dX12_search_41 : decode cX12_search 41 = .ok (.getfield 34, 3) := by decide +kernel
theorem dX12_search_44 : decode cX12_search 44 = .ok (.iload 4, 2) := by decide +kernel
theorem dX12_search_46 : decode cX12_search 46 = .ok (.iaload, 1) := by decide +kernel
theorem dX12_search_47 : decode cX12_search 47 = .ok (.iadd, 1) := by decide +kernel
theorem dX12_search_48 : decode cX12_search 48 = .ok (.aload_n 0, 1) := by decide +kernel
theorem dX12_search_49 : decode cX12_search 49 = .ok (.getfield 34, 3) := by decide +kernel
theorem dX12_search_52 : decode cX12_search 52 = .ok (.iload_n 1, 1) := by decide +kernel
theorem dX12_search_53 : decode cX12_search 53 = .ok (.iaload, 1) := by decide +kernel
theorem dX12_search_54 : decode cX12_search 54 = .ok (.isub, 1) := by decide +kernel
theorem dX12_search_55 : decode cX12_search 55 = .ok (.istore 6, 2) := by decide +kernel
theorem dX12_search_57 : decode cX12_search 57 = .ok (.aload_n 0, 1) := by decide +kernel
theorem dX12_search_58 : decode cX12_search 58 = .ok (.iconst 1, 1) := by decide +kernel
theorem dX12_search_59 : decode cX12_search 59 = .ok (.invokevirtual 216, 3) := by decide +kernel
theorem dX12_search_62 : decode cX12_search 62 = .ok (.istore 7, 2) := by decide +kernel
theorem dX12_search_64 : decode cX12_search 64 = .ok (.iconst 0, 1) := by decide +kernel
theorem dX12_search_65 : decode cX12_search 65 = .ok (.istore 8, 2) := by decide +kernel
theorem dX12_search_67 : decode cX12_search 67 = .ok (.iload 6, 2) := by decide +kernel
theorem dX12_search_69 : decode cX12_search 69 = .ok (.iload 7, 2) := by decide +kernel
theorem dX12_search_71 : decode cX12_search 71 = .ok (.isub, 1) := by decide +kernel
theorem dX12_search_72 : decode cX12_search 72 = .ok (.istore 9, 2) := by decide +kernel
theorem dX12_search_74 : decode cX12_search 74 = .ok (.iload 9, 2) := by decide +kernel
theorem dX12_search_76 : decode cX12_search 76 = .ok (.iload 6, 2) := by decide +kernel
theorem dX12_search_78 : decode cX12_search 78 = .ok (.iload 7, 2) := by decide +kernel
theorem dX12_search_80 : decode cX12_search 80 = .ok (.iadd, 1) := by decide +kernel
theorem dX12_search_81 : decode cX12_search 81 = .ok (.if_icmp .gt 192, 3) := by decide +kernel
theorem dX12_search_84 : decode cX12_search 84 = .ok (.iload 5, 2) := by decide +kernel
theorem dX12_search_86 : decode cX12_search 86 = .ok (.iload 7, 2) := by decide +kernel
theorem dX12_search_88 : decode cX12_search 88 = .ok (.isub, 1) := by decide +kernel
theorem dX12_search_89 : decode cX12_search 89 = .ok (.istore 10, 2) := by decide +kernel
theorem dX12_search_91 : decode cX12_search 91 = .ok (.iload 10, 2) := by decide +kernel
theorem dX12_search_93 : decode cX12_search 93 = .ok (.iload 5, 2) := by decide +kernel
theorem dX12_search_95 : decode cX12_search 95 = .ok (.iload 7, 2) := by decide +kernel
theorem dX12_search_97 : decode cX12_search 97 = .ok (.iadd, 1) := by decide +kernel
theorem dX12_search_98 : decode cX12_search 98 = .ok (.if_icmp .gt 169, 3) := by decide +kernel
theorem dX12_search_101 : decode cX12_search 101 = .ok (.aload_n 0, 1) := by decide +kernel
theorem dX12_search_102 : decode cX12_search 102 = .ok (.iload 10, 2) := by decide +kernel
theorem dX12_search_104 : decode cX12_search 104 = .ok (.iload 9, 2) := by decide +kernel
theorem dX12_search_106 : decode cX12_search 106 = .ok (.invokevirtual 256, 3) := by decide +kernel
theorem dX12_search_109 : decode cX12_search 109 = .ok (.ifCond .ne 6, 3) := by decide +kernel
theorem dX12_search_112 : decode cX12_search 112 = .ok (.goto 149, 3) := by decide +kernel
theorem dX12_search_115 : decode cX12_search 115 = .ok (.aload_n 0, 1) := by decide +kernel
theorem dX12_search_116 : decode cX12_search 116 = .ok (.iload_n 1, 1) := by decide +kernel
theorem dX12_search_117 : decode cX12_search 117 = .ok (.iload_n 2, 1) := by decide +kernel
theorem dX12_search_118 : decode cX12_search 118 = .ok (.iload_n 3, 1) := by decide +kernel
theorem dX12_search_119 : decode cX12_search 119 = .ok (.iload 4, 2) := by decide +kernel
theorem dX12_search_121 : decode cX12_search 121 = .ok (.iload 10, 2) := by decide +kernel
theorem dX12_search_123 : decode cX12_search 123 = .ok (.iload 9, 2) := by decide +kernel
theorem dX12_search_125 : decode cX12_search 125 = .ok (.invokevirtual 262, 3) := by decide +kernel
theorem dX12_search_128 : decode cX12_search 128 = .ok (.istore 11, 2) := by decide +kernel
theorem dX12_search_130 : decode cX12_search 130 = .ok (.iload 10, 2) := by decide +kernel
theorem dX12_search_132 : decode cX12_search 132 = .ok (.iload 5, 2) := by decide +kernel
theorem dX12_search_134 : decode cX12_search 134 = .ok (.isub, 1) := by decide +kernel
theorem dX12_search_135 : decode cX12_search 135 = .ok (.invokestatic 253, 3) := by decide +kernel
theorem dX12_search_138 : decode cX12_search 138 = .ok (.iload 9, 2) := by decide +kernel
theorem dX12_search_140 : decode cX12_search 140 = .ok (.iload 6, 2) := by decide +kernel
theorem dX12_search_142 : decode cX12_search 142 = .ok (.isub, 1) := by decide +kernel
theorem dX12_search_143 : decode cX12_search 143 = .ok (.invokestatic 253, 3) := by decide +kernel
theorem dX12_search_146 : decode cX12_search 146 = .ok (.iadd, 1) := by decide +kernel
theorem dX12_search_147 : decode cX12_search 147 = .ok (.istore 12, 2) := by decide +kernel
theorem dX12_search_149 : decode cX12_search 149 = .ok (.aload_n 0, 1) := by decide +kernel
theorem dX12_search_150 : decode cX12_search 150 = .ok (.getfield 281, 3) := by decide +kernel
theorem dX12_search_153 : decode cX12_search 153 = .ok (.ifCond .lt 28, 3) := by decide +kernel
theorem dX12_search_156 : decode cX12_search 156 = .ok (.iload 11, 2) := by decide +kernel
theorem dX12_search_158 : decode cX12_search 158 = .ok (.aload_n 0, 1) := by decide +kernel
theorem dX12_search_159 : decode cX12_search 159 = .ok (.getfield 281, 3) := by decide +kernel
theorem dX12_search_162 : decode cX12_search 162 = .ok (.if_icmp .lt 19, 3) := by decide +kernel
theorem dX12_search_165 : decode cX12_search 165 = .ok (.iload 11, 2) := by decide +kernel
theorem dX12_search_167 : decode cX12_search 167 = .ok (.aload_n 0, 1) := by decide +kernel
theorem dX12_search_168 : decode cX12_search 168 = .ok (.getfield 281, 3) := by decide +kernel
theorem dX12_search_171 : decode cX12_search 171 = .ok (.if_icmp .ne 14, 3) := by decide +kernel
theorem dX12_search_174 : decode cX12_search 174 = .ok (.iload 12, 2) := by decide +kernel
theorem dX12_search_176 : decode cX12_search 176 = .ok (.iload 8, 2) := by decide +kernel
theorem dX12_search_178 : decode cX12_search 178 = .ok (.if_icmp .ge 7, 3) := by decide +kernel
theorem dX12_search_181 : decode cX12_search 181 = .ok (.iconst 1, 1) := by decide +kernel
theorem dX12_search_182 : decode cX12_search 182 = .ok (.goto 4, 3) := by decide +kernel
theorem dX12_search_185 : decode cX12_search 185 = .ok (.iconst 0, 1) := by decide +kernel
theorem dX12_search_186 : decode cX12_search 186 = .ok (.istore 13, 2) := by decide +kernel
theorem dX12_search_188 : decode cX12_search 188 = .ok (.iload 13, 2) := by decide +kernel
theorem dX12_search_190 : decode cX12_search 190 = .ok (.ifCond .eq 10, 3) := by decide +kernel
theorem dX12_search_193 : decode cX12_search 193 = .ok (.aload_n 0, 1) := by decide +kernel
theorem dX12_search_194 : decode cX12_search 194 = .ok (.getfield 281, 3) := by decide +kernel
theorem dX12_search_197 : decode cX12_search 197 = .ok (.goto 5, 3) := by decide +kernel
theorem dX12_search_200 : decode cX12_search 200 = .ok (.iload 11, 2) := by decide +kernel
theorem dX12_search_202 : decode cX12_search 202 = .ok (.istore 14, 2) := by decide +kernel
theorem dX12_search_204 : decode cX12_search 204 = .ok (.iload 14, 2) := by decide +kernel
theorem dX12_search_206 : decode cX12_search 206 = .ok (.ifCond .lt 25, 3) := by decide +kernel
theorem dX12_search_209 : decode cX12_search 209 = .ok (.aload_n 0, 1) := by decide +kernel
theorem dX12_search_210 : decode cX12_search 210 = .ok (.getfield 284, 3) := by decide +kernel
theorem dX12_search_213 : decode cX12_search 213 = .ok (.ifCond .lt 12, 3) := by decide +kernel
theorem dX12_search_216 : decode cX12_search 216 = .ok (.iload 14, 2) := by decide +kernel
theorem dX12_search_218 : decode cX12_search 218 = .ok (.aload_n 0, 1) := by decide +kernel
theorem dX12_search_219 : decode cX12_search 219 = .ok (.getfield 284, 3) := by decide +kernel
theorem dX12_search_222 : decode cX12_search 222 = .ok (.if_icmp .ge 9, 3) := by decide +kernel
theorem dX12_search_225 : decode cX12_search 225 = .ok (.aload_n 0, 1) := by decide +kernel
theorem dX12_search_226 : decode cX12_search 226 = .ok (.iload 14, 2) := by decide +kernel
theorem dX12_search_228 : decode cX12_search 228 = .ok (.putfield 284, 3) := by decide +kernel
theorem dX12_search_231 : decode cX12_search 231 = .ok (.iload 13, 2) := by decide +kernel
theorem dX12_search_233 : decode cX12_search 233 = .ok (.ifCond .ne 6, 3) := by decide +kernel
theorem dX12_search_236 : decode cX12_search 236 = .ok (.goto 25, 3) := by decide +kernel
theorem dX12_search_239 : decode cX12_search 239 = .ok (.aload_n 0, 1) := by decide +kernel
theorem dX12_search_240 : decode cX12_search 240 = .ok (.iload 11, 2) := by decide +kernel
theorem dX12_search_242 : decode cX12_search 242 = .ok (.putfield 281, 3) := by decide +kernel
theorem dX12_search_245 : decode cX12_search 245 = .ok (.aload_n 0, 1) := by decide +kernel
theorem dX12_search_246 : decode cX12_search 246 = .ok (.iload 10, 2) := by decide +kernel
theorem dX12_search_248 : decode cX12_search 248 = .ok (.putfield 287, 3) := by decide +kernel
theorem dX12_search_251 : decode cX12_search 251 = .ok (.aload_n 0, 1) := by decide +kernel
theorem dX12_search_252 : decode cX12_search 252 = .ok (.iload 9, 2) := by decide +kernel
theorem dX12_search_254 : decode cX12_search 254 = .ok (.putfield 290, 3) := by decide +kernel
theorem dX12_search_257 : decode cX12_search 257 = .ok (.iload 12, 2) := by decide +kernel
theorem dX12_search_259 : decode cX12_search 259 = .ok (.istore 8, 2) := by decide +kernel
theorem dX12_search_261 : decode cX12_search 261 = .ok (.iinc 10 1, 3) := by decide +kernel
theorem dX12_search_264 : decode cX12_search 264 = .ok (.goto (-173), 3) := by decide +kernel
theorem dX12_search_267 : decode cX12_search 267 = .ok (.iinc 9 1, 3) := by decide +kernel
theorem dX12_search_270 : decode cX12_search 270 = .ok (.goto (-196), 3) := by decide +kernel
theorem dX12_search_273 : decode cX12_search 273 = .ok (.aload_n 0, 1) := by decide +kernel
theorem dX12_search_274 : decode cX12_search 274 = .ok (.getfield 281, 3) := by decide +kernel
theorem dX12_search_277 : decode cX12_search 277 = .ok (.ifCond .lt 7, 3) := by decide +kernel
theorem dX12_search_280 : decode cX12_search 280 = .ok (.iconst 1, 1) := by decide +kernel
theorem dX12_search_281 : decode cX12_search 281 = .ok (.goto 4, 3) := by decide +kernel
theorem dX12_search_284 : decode cX12_search 284 = .ok (.iconst 0, 1) := by decide +kernel
theorem dX12_search_285 : decode cX12_search 285 = .ok (.ireturn, 1) := by decide +kernel
theorem dX12_noMatch_0 : decode cX12_noMatch 0 = .ok (.aload_n 0, 1) := by decide +kernel
theorem dX12_noMatch_1 : decode cX12_noMatch 1 = .ok (.invokevirtual 272, 3) := by decide +kernel
theorem dX12_noMatch_4 : decode cX12_noMatch 4 = .ok (.aload_n 0, 1) := by decide +kernel
theorem dX12_noMatch_5 : decode cX12_noMatch 5 = .ok (.aload_n 0, 1) := by decide +kernel
theorem dX12_noMatch_6 : decode cX12_noMatch 6 = .ok (.iload_n 1, 1) := by decide +kernel
theorem dX12_noMatch_7 : decode cX12_noMatch 7 = .ok (.invokevirtual 222, 3) := by decide +kernel
theorem dX12_noMatch_10 : decode cX12_noMatch 10 = .ok (.ifCond .eq 25, 3) := by decide +kernel
theorem dX12_noMatch_13 : decode cX12_noMatch 13 = .ok (.aload_n 0, 1) := by decide +kernel
theorem dX12_noMatch_14 : decode cX12_noMatch 14 = .ok (.iload 4, 2) := by decide +kernel
theorem dX12_noMatch_16 : decode cX12_noMatch 16 = .ok (.invokevirtual 222, 3) := by decide +kernel
theorem dX12_noMatch_19 : decode cX12_noMatch 19 = .ok (.ifCond .eq 16, 3) := by decide +kernel
theorem dX12_noMatch_22 : decode cX12_noMatch 22 = .ok (.aload_n 0, 1) := by decide +kernel
theorem dX12_noMatch_23 : decode cX12_noMatch 23 = .ok (.iload_n 2, 1) := by decide +kernel
theorem dX12_noMatch_24 : decode cX12_noMatch 24 = .ok (.iload_n 3, 1) := by decide +kernel
theorem dX12_noMatch_25 : decode cX12_noMatch 25 = .ok (.invokevirtual 233, 3) := by decide +kernel
theorem dX12_noMatch_28 : decode cX12_noMatch 28 = .ok (.ifCond .eq 7, 3) := by decide +kernel
theorem dX12_noMatch_31 : decode cX12_noMatch 31 = .ok (.iconst 1, 1) := by decide +kernel
theorem dX12_noMatch_32 : decode cX12_noMatch 32 = .ok (.goto 4, 3) := by decide +kernel
theorem dX12_noMatch_35 : decode cX12_noMatch 35 = .ok (.iconst 0, 1) := by decide +kernel
theorem dX12_noMatch_36 : decode cX12_noMatch 36 = .ok (.invokevirtual 226, 3) := by decide +kernel
theorem dX12_noMatch_39 : decode cX12_noMatch 39 = .ok (.ifCond .eq 5, 3) := by decide +kernel
theorem dX12_noMatch_42 : decode cX12_noMatch 42 = .ok (.iconst 1, 1) := by decide +kernel
theorem dX12_noMatch_43 : decode cX12_noMatch 43 = .ok (.ireturn, 1) := by decide +kernel
theorem dX12_noMatch_44 : decode cX12_noMatch 44 = .ok (.aload_n 0, 1) := by decide +kernel
theorem dX12_noMatch_45 : decode cX12_noMatch 45 = .ok (.getfield 27, 3) := by decide +kernel
theorem dX12_noMatch_48 : decode cX12_noMatch 48 = .ok (.iload_n 1, 1) := by decide +kernel
theorem dX12_noMatch_49 : decode cX12_noMatch 49 = .ok (.baload, 1) := by decide +kernel
theorem dX12_noMatch_50 : decode cX12_noMatch 50 = .ok (.ifCond .eq 25, 3) := by decide +kernel
theorem dX12_noMatch_53 : decode cX12_noMatch 53 = .ok (.aload_n 0, 1) := by decide +kernel
theorem dX12_noMatch_54 : decode cX12_noMatch 54 = .ok (.getfield 27, 3) := by decide +kernel
theorem dX12_noMatch_57 : decode cX12_noMatch 57 = .ok (.iload 4, 2) := by decide +kernel
theorem dX12_noMatch_59 : decode cX12_noMatch 59 = .ok (.baload, 1) := by decide +kernel
theorem dX12_noMatch_60 : decode cX12_noMatch 60 = .ok (.ifCond .eq 15, 3) := by decide +kernel
theorem dX12_noMatch_63 : decode cX12_noMatch 63 = .ok (.aload_n 0, 1) := by decide +kernel
theorem dX12_noMatch_64 : decode cX12_noMatch 64 = .ok (.iload_n 1, 1) := by decide +kernel
theorem dX12_noMatch_65 : decode cX12_noMatch 65 = .ok (.iload_n 2, 1) := by decide +kernel
theorem dX12_noMatch_66 : decode cX12_noMatch 66 = .ok (.iload_n 3, 1) := by decide +kernel
theorem dX12_noMatch_67 : decode cX12_noMatch 67 = .ok (.iload 4, 2) := by decide +kernel
theorem dX12_noMatch_69 : decode cX12_noMatch 69 = .ok (.invokevirtual 293, 3) := by decide +kernel
theorem dX12_noMatch_72 : decode cX12_noMatch 72 = .ok (.ifCond .ne 7, 3) := by decide +kernel
theorem dX12_noMatch_75 : decode cX12_noMatch 75 = .ok (.iconst 1, 1) := by decide +kernel
theorem dX12_noMatch_76 : decode cX12_noMatch 76 = .ok (.goto 4, 3) := by decide +kernel
theorem dX12_noMatch_79 : decode cX12_noMatch 79 = .ok (.iconst 0, 1) := by decide +kernel
theorem dX12_noMatch_80 : decode cX12_noMatch 80 = .ok (.ireturn, 1) := by decide +kernel
theorem dX12_unmatched_0 : decode cX12_unmatched 0 = .ok (.aload_n 0, 1) := by decide +kernel
theorem dX12_unmatched_1 : decode cX12_unmatched 1 = .ok (.getfield 83, 3) := by decide +kernel
theorem dX12_unmatched_4 : decode cX12_unmatched 4 = .ok (.ifCond .le 7, 3) := by decide +kernel
theorem dX12_unmatched_7 : decode cX12_unmatched 7 = .ok (.iconst 0, 1) := by decide +kernel
theorem dX12_unmatched_8 : decode cX12_unmatched 8 = .ok (.goto 4, 3) := by decide +kernel
theorem dX12_unmatched_11 : decode cX12_unmatched 11 = .ok (.iconst (-1), 1) := by decide +kernel
theorem dX12_unmatched_12 : decode cX12_unmatched 12 = .ok (.ireturn, 1) := by decide +kernel
theorem dX12_match_0 : decode cX12_match 0 = .ok (.aload_n 0, 1) := by decide +kernel
theorem dX12_match_1 : decode cX12_match 1 = .ok (.iload_n 1, 1) := by decide +kernel
theorem dX12_match_2 : decode cX12_match 2 = .ok (.iload_n 2, 1) := by decide +kernel
theorem dX12_match_3 : decode cX12_match 3 = .ok (.iload_n 3, 1) := by decide +kernel
theorem dX12_match_4 : decode cX12_match 4 = .ok (.iload 4, 2) := by decide +kernel
theorem dX12_match_6 : decode cX12_match 6 = .ok (.invokevirtual 297, 3) := by decide +kernel
theorem dX12_match_9 : decode cX12_match 9 = .ok (.ifCond .eq 10, 3) := by decide +kernel
theorem dX12_match_12 : decode cX12_match 12 = .ok (.aload_n 0, 1) := by decide +kernel
theorem dX12_match_13 : decode cX12_match 13 = .ok (.invokevirtual 300, 3) := by decide +kernel
theorem dX12_match_16 : decode cX12_match 16 = .ok (.goto 15, 3) := by decide +kernel
theorem dX12_match_19 : decode cX12_match 19 = .ok (.bipush 16, 2) := by decide +kernel
theorem dX12_match_21 : decode cX12_match 21 = .ok (.aload_n 0, 1) := by decide +kernel
theorem dX12_match_22 : decode cX12_match 22 = .ok (.getfield 287, 3) := by decide +kernel
theorem dX12_match_25 : decode cX12_match 25 = .ok (.imul, 1) := by decide +kernel
theorem dX12_match_26 : decode cX12_match 26 = .ok (.aload_n 0, 1) := by decide +kernel
theorem dX12_match_27 : decode cX12_match 27 = .ok (.getfield 290, 3) := by decide +kernel
theorem dX12_match_30 : decode cX12_match 30 = .ok (.iadd, 1) := by decide +kernel
theorem dX12_match_31 : decode cX12_match 31 = .ok (.ireturn, 1) := by decide +kernel
theorem dX12_matchError_0 : decode cX12_matchError 0 = .ok (.aload_n 0, 1) := by decide +kernel
theorem dX12_matchError_1 : decode cX12_matchError 1 = .ok (.iload_n 1, 1) := by decide +kernel
theorem dX12_matchError_2 : decode cX12_matchError 2 = .ok (.iload_n 2, 1) := by decide +kernel
theorem dX12_matchError_3 : decode cX12_matchError 3 = .ok (.iload_n 3, 1) := by decide +kernel
theorem dX12_matchError_4 : decode cX12_matchError 4 = .ok (.iload 4, 2) := by decide +kernel
theorem dX12_matchError_6 : decode cX12_matchError 6 = .ok (.invokevirtual 297, 3) := by decide +kernel
theorem dX12_matchError_9 : decode cX12_matchError 9 = .ok (.ifCond .eq 10, 3) := by decide +kernel
theorem dX12_matchError_12 : decode cX12_matchError 12 = .ok (.aload_n 0, 1) := by decide +kernel
theorem dX12_matchError_13 : decode cX12_matchError 13 = .ok (.invokevirtual 300, 3) := by decide +kernel
theorem dX12_matchError_16 : decode cX12_matchError 16 = .ok (.goto 7, 3) := by decide +kernel
theorem dX12_matchError_19 : decode cX12_matchError 19 = .ok (.aload_n 0, 1) := by decide +kernel
theorem dX12_matchError_20 : decode cX12_matchError 20 = .ok (.getfield 281, 3) := by decide +kernel
theorem dX12_matchError_23 : decode cX12_matchError 23 = .ok (.ireturn, 1) := by decide +kernel
theorem dX12_matchMargin_0 : decode cX12_matchMargin 0 = .ok (.aload_n 0, 1) := by decide +kernel
theorem dX12_matchMargin_1 : decode cX12_matchMargin 1 = .ok (.iload_n 1, 1) := by decide +kernel
theorem dX12_matchMargin_2 : decode cX12_matchMargin 2 = .ok (.iload_n 2, 1) := by decide +kernel
theorem dX12_matchMargin_3 : decode cX12_matchMargin 3 = .ok (.iload_n 3, 1) := by decide +kernel
theorem dX12_matchMargin_4 : decode cX12_matchMargin 4 = .ok (.iload 4, 2) := by decide +kernel
theorem dX12_matchMargin_6 : decode cX12_matchMargin 6 = .ok (.invokevirtual 297, 3) := by decide +kernel
theorem dX12_matchMargin_9 : decode cX12_matchMargin 9 = .ok (.ifCond .eq 8, 3) := by decide +kernel
theorem dX12_matchMargin_12 : decode cX12_matchMargin 12 = .ok (.aload_n 0, 1) := by decide +kernel
theorem dX12_matchMargin_13 : decode cX12_matchMargin 13 = .ok (.invokevirtual 300, 3) := by decide +kernel
theorem dX12_matchMargin_16 : decode cX12_matchMargin 16 = .ok (.ireturn, 1) := by decide +kernel
theorem dX12_matchMargin_17 : decode cX12_matchMargin 17 = .ok (.aload_n 0, 1) := by decide +kernel
theorem dX12_matchMargin_18 : decode cX12_matchMargin 18 = .ok (.getfield 284, 3) := by decide +kernel
theorem dX12_matchMargin_21 : decode cX12_matchMargin 21 = .ok (.ifCond .ge 7, 3) := by decide +kernel
theorem dX12_matchMargin_24 : decode cX12_matchMargin 24 = .ok (.iconst (-1), 1) := by decide +kernel
theorem dX12_matchMargin_25 : decode cX12_matchMargin 25 = .ok (.goto 12, 3) := by decide +kernel
theorem dX12_matchMargin_28 : decode cX12_matchMargin 28 = .ok (.aload_n 0, 1) := by decide +kernel
theorem dX12_matchMargin_29 : decode cX12_matchMargin 29 = .ok (.getfield 284, 3) := by decide +kernel
theorem dX12_matchMargin_32 : decode cX12_matchMargin 32 = .ok (.aload_n 0, 1) := by decide +kernel
theorem dX12_matchMargin_33 : decode cX12_matchMargin 33 = .ok (.getfield 281, 3) := by decide +kernel
theorem dX12_matchMargin_36 : decode cX12_matchMargin 36 = .ok (.isub, 1) := by decide +kernel
theorem dX12_matchMargin_37 : decode cX12_matchMargin 37 = .ok (.ireturn, 1) := by decide +kernel
theorem dX12_windowSize_0 : decode cX12_windowSize 0 = .ok (.iconst 2, 1) := by decide +kernel
theorem dX12_windowSize_1 : decode cX12_windowSize 1 = .ok (.aload_n 0, 1) := by decide +kernel
theorem dX12_windowSize_2 : decode cX12_windowSize 2 = .ok (.iconst 0, 1) := by decide +kernel
theorem dX12_windowSize_3 : decode cX12_windowSize 3 = .ok (.invokevirtual 216, 3) := by decide +kernel
theorem dX12_windowSize_6 : decode cX12_windowSize 6 = .ok (.imul, 1) := by decide +kernel
theorem dX12_windowSize_7 : decode cX12_windowSize 7 = .ok (.iconst 1, 1) := by decide +kernel
theorem dX12_windowSize_8 : decode cX12_windowSize 8 = .ok (.iadd, 1) := by decide +kernel
theorem dX12_windowSize_9 : decode cX12_windowSize 9 = .ok (.istore_n 1, 1) := by decide +kernel
theorem dX12_windowSize_10 : decode cX12_windowSize 10 = .ok (.iload_n 1, 1) := by decide +kernel
theorem dX12_windowSize_11 : decode cX12_windowSize 11 = .ok (.iload_n 1, 1) := by decide +kernel
theorem dX12_windowSize_12 : decode cX12_windowSize 12 = .ok (.imul, 1) := by decide +kernel
theorem dX12_windowSize_13 : decode cX12_windowSize 13 = .ok (.ireturn, 1) := by decide +kernel
theorem dX12_follow_0 : decode cX12_follow 0 = .ok (.aload_n 0, 1) := by decide +kernel
theorem dX12_follow_1 : decode cX12_follow 1 = .ok (.iload_n 1, 1) := by decide +kernel
theorem dX12_follow_2 : decode cX12_follow 2 = .ok (.aload_n 0, 1) := by decide +kernel
theorem dX12_follow_3 : decode cX12_follow 3 = .ok (.getfield 43, 3) := by decide +kernel
theorem dX12_follow_6 : decode cX12_follow 6 = .ok (.iload_n 1, 1) := by decide +kernel
theorem dX12_follow_7 : decode cX12_follow 7 = .ok (.iaload, 1) := by decide +kernel
theorem dX12_follow_8 : decode cX12_follow 8 = .ok (.aload_n 0, 1) := by decide +kernel
theorem dX12_follow_9 : decode cX12_follow 9 = .ok (.getfield 46, 3) := by decide +kernel
theorem dX12_follow_12 : decode cX12_follow 12 = .ok (.iload_n 1, 1) := by decide +kernel
theorem dX12_follow_13 : decode cX12_follow 13 = .ok (.iaload, 1) := by decide +kernel
theorem dX12_follow_14 : decode cX12_follow 14 = .ok (.iload_n 2, 1) := by decide +kernel
theorem dX12_follow_15 : decode cX12_follow 15 = .ok (.invokevirtual 293, 3) := by decide +kernel
theorem dX12_follow_18 : decode cX12_follow 18 = .ok (.ifCond .eq 16, 3) := by decide +kernel
theorem dX12_follow_21 : decode cX12_follow 21 = .ok (.aload_n 0, 1) := by decide +kernel
theorem dX12_follow_22 : decode cX12_follow 22 = .ok (.getfield 281, 3) := by decide +kernel
theorem dX12_follow_25 : decode cX12_follow 25 = .ok (.iload_n 3, 1) := by decide +kernel
theorem dX12_follow_26 : decode cX12_follow 26 = .ok (.aload_n 0, 1) := by decide +kernel
theorem dX12_follow_27 : decode cX12_follow 27 = .ok (.invokevirtual 303, 3) := by decide +kernel
theorem dX12_follow_30 : decode cX12_follow 30 = .ok (.imul, 1) := by decide +kernel
theorem dX12_follow_31 : decode cX12_follow 31 = .ok (.if_icmp .le 5, 3) := by decide +kernel
theorem dX12_follow_34 : decode cX12_follow 34 = .ok (.iconst 0, 1) := by decide +kernel
theorem dX12_follow_35 : decode cX12_follow 35 = .ok (.ireturn, 1) := by decide +kernel
theorem dX12_follow_36 : decode cX12_follow 36 = .ok (.aload_n 0, 1) := by decide +kernel
theorem dX12_follow_37 : decode cX12_follow 37 = .ok (.getfield 287, 3) := by decide +kernel
theorem dX12_follow_40 : decode cX12_follow 40 = .ok (.istore 4, 2) := by decide +kernel
theorem dX12_follow_42 : decode cX12_follow 42 = .ok (.aload_n 0, 1) := by decide +kernel
theorem dX12_follow_43 : decode cX12_follow 43 = .ok (.getfield 290, 3) := by decide +kernel
theorem dX12_follow_46 : decode cX12_follow 46 = .ok (.istore 5, 2) := by decide +kernel
theorem dX12_follow_48 : decode cX12_follow 48 = .ok (.aload_n 0, 1) := by decide +kernel
theorem dX12_follow_49 : decode cX12_follow 49 = .ok (.iload_n 2, 1) := by decide +kernel
theorem dX12_follow_50 : decode cX12_follow 50 = .ok (.iload 4, 2) := by decide +kernel
theorem dX12_follow_52 : decode cX12_follow 52 = .ok (.iload 5, 2) := by decide +kernel
theorem dX12_follow_54 : decode cX12_follow 54 = .ok (.iload_n 1, 1) := by decide +kernel
theorem dX12_follow_55 : decode cX12_follow 55 = .ok (.invokevirtual 293, 3) := by decide +kernel
theorem dX12_follow_58 : decode cX12_follow 58 = .ok (.ifCond .eq 39, 3) := by decide +kernel
theorem dX12_follow_61 : decode cX12_follow 61 = .ok (.aload_n 0, 1) := by decide +kernel
theorem dX12_follow_62 : decode cX12_follow 62 = .ok (.getfield 287, 3) := by decide +kernel
theorem dX12_follow_65 : decode cX12_follow 65 = .ok (.aload_n 0, 1) := by decide +kernel
theorem dX12_follow_66 : decode cX12_follow 66 = .ok (.getfield 43, 3) := by decide +kernel
theorem dX12_follow_69 : decode cX12_follow 69 = .ok (.iload_n 1, 1) := by decide +kernel
theorem dX12_follow_70 : decode cX12_follow 70 = .ok (.iaload, 1) := by decide +kernel
theorem dX12_follow_71 : decode cX12_follow 71 = .ok (.isub, 1) := by decide +kernel
theorem dX12_follow_72 : decode cX12_follow 72 = .ok (.invokestatic 253, 3) := by decide +kernel
theorem dX12_follow_75 : decode cX12_follow 75 = .ok (.iconst 1, 1) := by decide +kernel
theorem dX12_follow_76 : decode cX12_follow 76 = .ok (.if_icmp .gt 21, 3) := by decide +kernel
theorem dX12_follow_79 : decode cX12_follow 79 = .ok (.aload_n 0, 1) := by decide +kernel
theorem dX12_follow_80 : decode cX12_follow 80 = .ok (.getfield 290, 3) := by decide +kernel
theorem dX12_follow_83 : decode cX12_follow 83 = .ok (.aload_n 0, 1) := by decide +kernel
theorem dX12_follow_84 : decode cX12_follow 84 = .ok (.getfield 46, 3) := by decide +kernel
theorem dX12_follow_87 : decode cX12_follow 87 = .ok (.iload_n 1, 1) := by decide +kernel
theorem dX12_follow_88 : decode cX12_follow 88 = .ok (.iaload, 1) := by decide +kernel
theorem dX12_follow_89 : decode cX12_follow 89 = .ok (.isub, 1) := by decide +kernel
theorem dX12_follow_90 : decode cX12_follow 90 = .ok (.invokestatic 253, 3) := by decide +kernel
theorem dX12_follow_93 : decode cX12_follow 93 = .ok (.iconst 1, 1) := by decide +kernel
theorem dX12_follow_94 : decode cX12_follow 94 = .ok (.if_icmp .le 5, 3) := by decide +kernel
theorem dX12_follow_97 : decode cX12_follow 97 = .ok (.iconst 0, 1) := by decide +kernel
theorem dX12_follow_98 : decode cX12_follow 98 = .ok (.ireturn, 1) := by decide +kernel
theorem dX12_follow_99 : decode cX12_follow 99 = .ok (.aload_n 0, 1) := by decide +kernel
theorem dX12_follow_100 : decode cX12_follow 100 = .ok (.getfield 43, 3) := by decide +kernel
theorem dX12_follow_103 : decode cX12_follow 103 = .ok (.iload_n 2, 1) := by decide +kernel
theorem dX12_follow_104 : decode cX12_follow 104 = .ok (.iload 4, 2) := by decide +kernel
theorem dX12_follow_106 : decode cX12_follow 106 = .ok (.iastore, 1) := by decide +kernel
theorem dX12_follow_107 : decode cX12_follow 107 = .ok (.aload_n 0, 1) := by decide +kernel
theorem dX12_follow_108 : decode cX12_follow 108 = .ok (.getfield 46, 3) := by decide +kernel
theorem dX12_follow_111 : decode cX12_follow 111 = .ok (.iload_n 2, 1) := by decide +kernel
theorem dX12_follow_112 : decode cX12_follow 112 = .ok (.iload 5, 2) := by decide +kernel
theorem dX12_follow_114 : decode cX12_follow 114 = .ok (.iastore, 1) := by decide +kernel
theorem dX12_follow_115 : decode cX12_follow 115 = .ok (.iconst 1, 1) := by decide +kernel
theorem dX12_follow_116 : decode cX12_follow 116 = .ok (.ireturn, 1) := by decide +kernel
theorem dX12_track_0 : decode cX12_track 0 = .ok (.aload_n 0, 1) := by decide +kernel
theorem dX12_track_1 : decode cX12_track 1 = .ok (.invokevirtual 272, 3) := by decide +kernel
theorem dX12_track_4 : decode cX12_track 4 = .ok (.aload_n 0, 1) := by decide +kernel
theorem dX12_track_5 : decode cX12_track 5 = .ok (.getfield 259, 3) := by decide +kernel
theorem dX12_track_8 : decode cX12_track 8 = .ok (.istore_n 3, 1) := by decide +kernel
theorem dX12_track_9 : decode cX12_track 9 = .ok (.iconst 0, 1) := by decide +kernel
theorem dX12_track_10 : decode cX12_track 10 = .ok (.istore 4, 2) := by decide +kernel
theorem dX12_track_12 : decode cX12_track 12 = .ok (.iload 4, 2) := by decide +kernel
theorem dX12_track_14 : decode cX12_track 14 = .ok (.aload_n 0, 1) := by decide +kernel
theorem dX12_track_15 : decode cX12_track 15 = .ok (.getfield 7, 3) := by decide +kernel
theorem dX12_track_18 : decode cX12_track 18 = .ok (.iconst 2, 1) := by decide +kernel
theorem dX12_track_19 : decode cX12_track 19 = .ok (.iaload, 1) := by decide +kernel
theorem dX12_track_20 : decode cX12_track 20 = .ok (.if_icmp .ge 122, 3) := by decide +kernel
theorem dX12_track_23 : decode cX12_track 23 = .ok (.aload_n 0, 1) := by decide +kernel
theorem dX12_track_24 : decode cX12_track 24 = .ok (.getfield 40, 3) := by decide +kernel
theorem dX12_track_27 : decode cX12_track 27 = .ok (.iload 4, 2) := by decide +kernel
theorem dX12_track_29 : decode cX12_track 29 = .ok (.iload 4, 2) := by decide +kernel
theorem dX12_track_31 : decode cX12_track 31 = .ok (.aload_n 0, 1) := by decide +kernel
theorem dX12_track_32 : decode cX12_track 32 = .ok (.getfield 259, 3) := by decide +kernel
theorem dX12_track_35 : decode cX12_track 35 = .ok (.if_icmp .ne 7, 3) := by decide +kernel
theorem dX12_track_38 : decode cX12_track 38 = .ok (.iconst 1, 1) := by decide +kernel
theorem dX12_track_39 : decode cX12_track 39 = .ok (.goto 4, 3) := by decide +kernel
theorem dX12_track_42 : decode cX12_track 42 = .ok (.iconst 0, 1) := by decide +kernel
theorem dX12_track_43 : decode cX12_track 43 = .ok (.bastore, 1) := by decide +kernel
theorem dX12_track_44 : decode cX12_track 44 = .ok (.iload 4, 2) := by decide +kernel
theorem dX12_track_46 : decode cX12_track 46 = .ok (.aload_n 0, 1) := by decide +kernel
theorem dX12_track_47 : decode cX12_track 47 = .ok (.getfield 259, 3) := by decide +kernel
theorem dX12_track_50 : decode cX12_track 50 = .ok (.if_icmp .ne 44, 3) := by decide +kernel
theorem dX12_track_53 : decode cX12_track 53 = .ok (.aload_n 0, 1) := by decide +kernel
theorem dX12_track_54 : decode cX12_track 54 = .ok (.getfield 43, 3) := by decide +kernel
theorem dX12_track_57 : decode cX12_track 57 = .ok (.iload 4, 2) := by decide +kernel
theorem dX12_track_59 : decode cX12_track 59 = .ok (.aload_n 0, 1) := by decide +kernel
theorem dX12_track_60 : decode cX12_track 60 = .ok (.getfield 7, 3) := by decide +kernel
theorem dX12_track_63 : decode cX12_track 63 = .ok (.bipush 20, 2) := by decide +kernel
theorem dX12_track_65 : decode cX12_track 65 = .ok (.iconst 2, 1) := by decide +kernel
theorem dX12_track_66 : decode cX12_track 66 = .ok (.iload_n 1, 1) := by decide +kernel
theorem dX12_track_67 : decode cX12_track 67 = .ok (.imul, 1) := by decide +kernel
theorem dX12_track_68 : decode cX12_track 68 = .ok (.iadd, 1) := by decide +kernel
theorem dX12_track_69 : decode cX12_track 69 = .ok (.iaload, 1) := by decide +kernel
theorem dX12_track_70 : decode cX12_track 70 = .ok (.iastore, 1) := by decide +kernel
theorem dX12_track_71 : decode cX12_track 71 = .ok (.aload_n 0, 1) := by decide +kernel
theorem dX12_track_72 : decode cX12_track 72 = .ok (.getfield 46, 3) := by decide +kernel
theorem dX12_track_75 : decode cX12_track 75 = .ok (.iload 4, 2) := by decide +kernel
theorem dX12_track_77 : decode cX12_track 77 = .ok (.aload_n 0, 1) := by decide +kernel
theorem dX12_track_78 : decode cX12_track 78 = .ok (.getfield 7, 3) := by decide +kernel
theorem dX12_track_81 : decode cX12_track 81 = .ok (.bipush 20, 2) := by decide +kernel
theorem dX12_track_83 : decode cX12_track 83 = .ok (.iconst 2, 1) := by decide +kernel
theorem dX12_track_84 : decode cX12_track 84 = .ok (.iload_n 1, 1) := by decide +kernel
theorem dX12_track_85 : decode cX12_track 85 = .ok (.imul, 1) := by decide +kernel
theorem dX12_track_86 : decode cX12_track 86 = .ok (.iadd, 1) := by decide +kernel
theorem dX12_track_87 : decode cX12_track 87 = .ok (.iconst 1, 1) := by decide +kernel
theorem dX12_track_88 : decode cX12_track 88 = .ok (.iadd, 1) := by decide +kernel
theorem dX12_track_89 : decode cX12_track 89 = .ok (.iaload, 1) := by decide +kernel
theorem dX12_track_90 : decode cX12_track 90 = .ok (.iastore, 1) := by decide +kernel
theorem dX12_track_91 : decode cX12_track 91 = .ok (.goto 45, 3) := by decide +kernel
theorem dX12_track_94 : decode cX12_track 94 = .ok (.aload_n 0, 1) := by decide +kernel
theorem dX12_track_95 : decode cX12_track 95 = .ok (.getfield 27, 3) := by decide +kernel
theorem dX12_track_98 : decode cX12_track 98 = .ok (.iload 4, 2) := by decide +kernel
theorem dX12_track_100 : decode cX12_track 100 = .ok (.baload, 1) := by decide +kernel
theorem dX12_track_101 : decode cX12_track 101 = .ok (.ifCond .eq 35, 3) := by decide +kernel
theorem dX12_track_104 : decode cX12_track 104 = .ok (.aload_n 0, 1) := by decide +kernel
theorem dX12_track_105 : decode cX12_track 105 = .ok (.getfield 40, 3) := by decide +kernel
theorem dX12_track_108 : decode cX12_track 108 = .ok (.iload 4, 2) := by decide +kernel
theorem dX12_track_110 : decode cX12_track 110 = .ok (.aload_n 0, 1) := by decide +kernel
theorem dX12_track_111 : decode cX12_track 111 = .ok (.iload_n 3, 1) := by decide +kernel
theorem dX12_track_112 : decode cX12_track 112 = .ok (.iload 4, 2) := by decide +kernel
theorem dX12_track_114 : decode cX12_track 114 = .ok (.iload_n 2, 1) := by decide +kernel
theorem dX12_track_115 : decode cX12_track 115 = .ok (.invokevirtual 306, 3) := by decide +kernel
theorem dX12_track_118 : decode cX12_track 118 = .ok (.bastore, 1) := by decide +kernel
theorem dX12_track_119 : decode cX12_track 119 = .ok (.aload_n 0, 1) := by decide +kernel
theorem dX12_track_120 : decode cX12_track 120 = .ok (.getfield 40, 3) := by decide +kernel
theorem dX12_track_123 : decode cX12_track 123 = .ok (.iload 4, 2) := by decide +kernel
theorem dX12_track_125 : decode cX12_track 125 = .ok (.baload, 1) := by decide +kernel
theorem dX12_track_126 : decode cX12_track 126 = .ok (.ifCond .eq 8, 3) := by decide +kernel
theorem dX12_track_129 : decode cX12_track 129 = .ok (.iload 4, 2) := by decide +kernel
theorem dX12_track_131 : decode cX12_track 131 = .ok (.goto 4, 3) := by decide +kernel
theorem dX12_track_134 : decode cX12_track 134 = .ok (.iload_n 3, 1) := by decide +kernel
theorem dX12_track_135 : decode cX12_track 135 = .ok (.istore_n 3, 1) := by decide +kernel
theorem dX12_track_136 : decode cX12_track 136 = .ok (.iinc 4 1, 3) := by decide +kernel
theorem dX12_track_139 : decode cX12_track 139 = .ok (.goto (-127), 3) := by decide +kernel
theorem dX12_track_142 : decode cX12_track 142 = .ok (.return_, 1) := by decide +kernel
theorem dX12_noTrack_0 : decode cX12_noTrack 0 = .ok (.aload_n 0, 1) := by decide +kernel
theorem dX12_noTrack_1 : decode cX12_noTrack 1 = .ok (.aload_n 0, 1) := by decide +kernel
theorem dX12_noTrack_2 : decode cX12_noTrack 2 = .ok (.iload_n 1, 1) := by decide +kernel
theorem dX12_noTrack_3 : decode cX12_noTrack 3 = .ok (.invokevirtual 241, 3) := by decide +kernel
theorem dX12_noTrack_6 : decode cX12_noTrack 6 = .ok (.invokevirtual 226, 3) := by decide +kernel
theorem dX12_noTrack_9 : decode cX12_noTrack 9 = .ok (.ifCond .eq 5, 3) := by decide +kernel
theorem dX12_noTrack_12 : decode cX12_noTrack 12 = .ok (.iconst 1, 1) := by decide +kernel
theorem dX12_noTrack_13 : decode cX12_noTrack 13 = .ok (.ireturn, 1) := by decide +kernel
theorem dX12_noTrack_14 : decode cX12_noTrack 14 = .ok (.aload_n 0, 1) := by decide +kernel
theorem dX12_noTrack_15 : decode cX12_noTrack 15 = .ok (.iload_n 1, 1) := by decide +kernel
theorem dX12_noTrack_16 : decode cX12_noTrack 16 = .ok (.aload_n 0, 1) := by decide +kernel
theorem dX12_noTrack_17 : decode cX12_noTrack 17 = .ok (.iconst 4, 1) := by decide +kernel
theorem dX12_noTrack_18 : decode cX12_noTrack 18 = .ok (.invokevirtual 216, 3) := by decide +kernel
theorem dX12_noTrack_21 : decode cX12_noTrack 21 = .ok (.invokevirtual 309, 3) := by decide +kernel
theorem dX12_noTrack_24 : decode cX12_noTrack 24 = .ok (.iconst 0, 1) := by decide +kernel
theorem dX12_noTrack_25 : decode cX12_noTrack 25 = .ok (.ireturn, 1) := by decide +kernel
theorem dX12_trackX_0 : decode cX12_trackX 0 = .ok (.aload_n 0, 1) := by decide +kernel
theorem dX12_trackX_1 : decode cX12_trackX 1 = .ok (.aload_n 0, 1) := by decide +kernel
theorem dX12_trackX_2 : decode cX12_trackX 2 = .ok (.iload_n 1, 1) := by decide +kernel
theorem dX12_trackX_3 : decode cX12_trackX 3 = .ok (.invokevirtual 241, 3) := by decide +kernel
theorem dX12_trackX_6 : decode cX12_trackX 6 = .ok (.ifCond .eq 15, 3) := by decide +kernel
theorem dX12_trackX_9 : decode cX12_trackX 9 = .ok (.aload_n 0, 1) := by decide +kernel
theorem dX12_trackX_10 : decode cX12_trackX 10 = .ok (.iload_n 2, 1) := by decide +kernel
theorem dX12_trackX_11 : decode cX12_trackX 11 = .ok (.invokevirtual 222, 3) := by decide +kernel
theorem dX12_trackX_14 : decode cX12_trackX 14 = .ok (.ifCond .eq 7, 3) := by decide +kernel
theorem dX12_trackX_17 : decode cX12_trackX 17 = .ok (.iconst 1, 1) := by decide +kernel
theorem dX12_trackX_18 : decode cX12_trackX 18 = .ok (.goto 4, 3) := by decide +kernel
theorem dX12_trackX_21 : decode cX12_trackX 21 = .ok (.iconst 0, 1) := by decide +kernel
theorem dX12_trackX_22 : decode cX12_trackX 22 = .ok (.invokevirtual 226, 3) := by decide +kernel
theorem dX12_trackX_25 : decode cX12_trackX 25 = .ok (.ifCond .eq 5, 3) := by decide +kernel
theorem dX12_trackX_28 : decode cX12_trackX 28 = .ok (.iconst 0, 1) := by decide +kernel
theorem dX12_trackX_29 : decode cX12_trackX 29 = .ok (.ireturn, 1) := by decide +kernel
theorem dX12_trackX_30 : decode cX12_trackX 30 = .ok (.aload_n 0, 1) := by decide +kernel
theorem dX12_trackX_31 : decode cX12_trackX 31 = .ok (.iload_n 1, 1) := by decide +kernel
theorem dX12_trackX_32 : decode cX12_trackX 32 = .ok (.aload_n 0, 1) := by decide +kernel
theorem dX12_trackX_33 : decode cX12_trackX 33 = .ok (.iconst 4, 1) := by decide +kernel
theorem dX12_trackX_34 : decode cX12_trackX 34 = .ok (.invokevirtual 216, 3) := by decide +kernel
theorem dX12_trackX_37 : decode cX12_trackX 37 = .ok (.invokevirtual 309, 3) := by decide +kernel
theorem dX12_trackX_40 : decode cX12_trackX 40 = .ok (.aload_n 0, 1) := by decide +kernel
theorem dX12_trackX_41 : decode cX12_trackX 41 = .ok (.getfield 40, 3) := by decide +kernel
theorem dX12_trackX_44 : decode cX12_trackX 44 = .ok (.iload_n 2, 1) := by decide +kernel
theorem dX12_trackX_45 : decode cX12_trackX 45 = .ok (.baload, 1) := by decide +kernel
theorem dX12_trackX_46 : decode cX12_trackX 46 = .ok (.ifCond .eq 12, 3) := by decide +kernel
theorem dX12_trackX_49 : decode cX12_trackX 49 = .ok (.aload_n 0, 1) := by decide +kernel
theorem dX12_trackX_50 : decode cX12_trackX 50 = .ok (.getfield 43, 3) := by decide +kernel
theorem dX12_trackX_53 : decode cX12_trackX 53 = .ok (.iload_n 2, 1) := by decide +kernel
theorem dX12_trackX_54 : decode cX12_trackX 54 = .ok (.iaload, 1) := by decide +kernel
theorem dX12_trackX_55 : decode cX12_trackX 55 = .ok (.goto 4, 3) := by decide +kernel
theorem dX12_trackX_58 : decode cX12_trackX 58 = .ok (.iconst (-1), 1) := by decide +kernel
theorem dX12_trackX_59 : decode cX12_trackX 59 = .ok (.ireturn, 1) := by decide +kernel
theorem dX12_trackY_0 : decode cX12_trackY 0 = .ok (.aload_n 0, 1) := by decide +kernel
theorem dX12_trackY_1 : decode cX12_trackY 1 = .ok (.aload_n 0, 1) := by decide +kernel
theorem dX12_trackY_2 : decode cX12_trackY 2 = .ok (.iload_n 1, 1) := by decide +kernel
theorem dX12_trackY_3 : decode cX12_trackY 3 = .ok (.invokevirtual 241, 3) := by decide +kernel
theorem dX12_trackY_6 : decode cX12_trackY 6 = .ok (.ifCond .eq 15, 3) := by decide +kernel
theorem dX12_trackY_9 : decode cX12_trackY 9 = .ok (.aload_n 0, 1) := by decide +kernel
theorem dX12_trackY_10 : decode cX12_trackY 10 = .ok (.iload_n 2, 1) := by decide +kernel
theorem dX12_trackY_11 : decode cX12_trackY 11 = .ok (.invokevirtual 222, 3) := by decide +kernel
theorem dX12_trackY_14 : decode cX12_trackY 14 = .ok (.ifCond .eq 7, 3) := by decide +kernel
theorem dX12_trackY_17 : decode cX12_trackY 17 = .ok (.iconst 1, 1) := by decide +kernel
theorem dX12_trackY_18 : decode cX12_trackY 18 = .ok (.goto 4, 3) := by decide +kernel
theorem dX12_trackY_21 : decode cX12_trackY 21 = .ok (.iconst 0, 1) := by decide +kernel
theorem dX12_trackY_22 : decode cX12_trackY 22 = .ok (.invokevirtual 226, 3) := by decide +kernel
theorem dX12_trackY_25 : decode cX12_trackY 25 = .ok (.ifCond .eq 5, 3) := by decide +kernel
theorem dX12_trackY_28 : decode cX12_trackY 28 = .ok (.iconst 0, 1) := by decide +kernel
theorem dX12_trackY_29 : decode cX12_trackY 29 = .ok (.ireturn, 1) := by decide +kernel
theorem dX12_trackY_30 : decode cX12_trackY 30 = .ok (.aload_n 0, 1) := by decide +kernel
theorem dX12_trackY_31 : decode cX12_trackY 31 = .ok (.iload_n 1, 1) := by decide +kernel
theorem dX12_trackY_32 : decode cX12_trackY 32 = .ok (.aload_n 0, 1) := by decide +kernel
theorem dX12_trackY_33 : decode cX12_trackY 33 = .ok (.iconst 4, 1) := by decide +kernel
theorem dX12_trackY_34 : decode cX12_trackY 34 = .ok (.invokevirtual 216, 3) := by decide +kernel
theorem dX12_trackY_37 : decode cX12_trackY 37 = .ok (.invokevirtual 309, 3) := by decide +kernel
theorem dX12_trackY_40 : decode cX12_trackY 40 = .ok (.aload_n 0, 1) := by decide +kernel
theorem dX12_trackY_41 : decode cX12_trackY 41 = .ok (.getfield 40, 3) := by decide +kernel
theorem dX12_trackY_44 : decode cX12_trackY 44 = .ok (.iload_n 2, 1) := by decide +kernel
theorem dX12_trackY_45 : decode cX12_trackY 45 = .ok (.baload, 1) := by decide +kernel
theorem dX12_trackY_46 : decode cX12_trackY 46 = .ok (.ifCond .eq 12, 3) := by decide +kernel
theorem dX12_trackY_49 : decode cX12_trackY 49 = .ok (.aload_n 0, 1) := by decide +kernel
theorem dX12_trackY_50 : decode cX12_trackY 50 = .ok (.getfield 46, 3) := by decide +kernel
theorem dX12_trackY_53 : decode cX12_trackY 53 = .ok (.iload_n 2, 1) := by decide +kernel
theorem dX12_trackY_54 : decode cX12_trackY 54 = .ok (.iaload, 1) := by decide +kernel
theorem dX12_trackY_55 : decode cX12_trackY 55 = .ok (.goto 4, 3) := by decide +kernel
theorem dX12_trackY_58 : decode cX12_trackY 58 = .ok (.iconst (-1), 1) := by decide +kernel
theorem dX12_trackY_59 : decode cX12_trackY 59 = .ok (.ireturn, 1) := by decide +kernel
theorem dX12_lost_0 : decode cX12_lost 0 = .ok (.iconst 0, 1) := by decide +kernel
theorem dX12_lost_1 : decode cX12_lost 1 = .ok (.istore_n 1, 1) := by decide +kernel
theorem dX12_lost_2 : decode cX12_lost 2 = .ok (.iconst 0, 1) := by decide +kernel
theorem dX12_lost_3 : decode cX12_lost 3 = .ok (.istore_n 2, 1) := by decide +kernel
theorem dX12_lost_4 : decode cX12_lost 4 = .ok (.iload_n 2, 1) := by decide +kernel
theorem dX12_lost_5 : decode cX12_lost 5 = .ok (.aload_n 0, 1) := by decide +kernel
theorem dX12_lost_6 : decode cX12_lost 6 = .ok (.getfield 7, 3) := by decide +kernel
theorem dX12_lost_9 : decode cX12_lost 9 = .ok (.iconst 2, 1) := by decide +kernel
theorem dX12_lost_10 : decode cX12_lost 10 = .ok (.iaload, 1) := by decide +kernel
theorem dX12_lost_11 : decode cX12_lost 11 = .ok (.if_icmp .ge 35, 3) := by decide +kernel
theorem dX12_lost_14 : decode cX12_lost 14 = .ok (.iload_n 1, 1) := by decide +kernel
theorem dX12_lost_15 : decode cX12_lost 15 = .ok (.aload_n 0, 1) := by decide +kernel
theorem dX12_lost_16 : decode cX12_lost 16 = .ok (.getfield 27, 3) := by decide +kernel
theorem dX12_lost_19 : decode cX12_lost 19 = .ok (.iload_n 2, 1) := by decide +kernel
theorem dX12_lost_20 : decode cX12_lost 20 = .ok (.baload, 1) := by decide +kernel
theorem dX12_lost_21 : decode cX12_lost 21 = .ok (.ifCond .eq 16, 3) := by decide +kernel
theorem dX12_lost_24 : decode cX12_lost 24 = .ok (.aload_n 0, 1) := by decide +kernel
theorem dX12_lost_25 : decode cX12_lost 25 = .ok (.getfield 40, 3) := by decide +kernel
theorem dX12_lost_28 : decode cX12_lost 28 = .ok (.iload_n 2, 1) := by decide +kernel
theorem dX12_lost_29 : decode cX12_lost 29 = .ok (.baload, 1) := by decide +kernel
theorem dX12_lost_30 : decode cX12_lost 30 = .ok (.ifCond .ne 7, 3) := by decide +kernel
theorem dX12_lost_33 : decode cX12_lost 33 = .ok (.iconst 1, 1) := by decide +kernel
theorem dX12_lost_34 : decode cX12_lost 34 = .ok (.goto 4, 3) := by decide +kernel
theorem dX12_lost_37 : decode cX12_lost 37 = .ok (.iconst 0, 1) := by decide +kernel
theorem dX12_lost_38 : decode cX12_lost 38 = .ok (.iadd, 1) := by decide +kernel
theorem dX12_lost_39 : decode cX12_lost 39 = .ok (.istore_n 1, 1) := by decide +kernel
theorem dX12_lost_40 : decode cX12_lost 40 = .ok (.iinc 2 1, 3) := by decide +kernel
theorem dX12_lost_43 : decode cX12_lost 43 = .ok (.goto (-39), 3) := by decide +kernel
theorem dX12_lost_46 : decode cX12_lost 46 = .ok (.iload_n 1, 1) := by decide +kernel
theorem dX12_lost_47 : decode cX12_lost 47 = .ok (.ireturn, 1) := by decide +kernel
theorem dX12_lostCount_0 : decode cX12_lostCount 0 = .ok (.aload_n 0, 1) := by decide +kernel
theorem dX12_lostCount_1 : decode cX12_lostCount 1 = .ok (.iload_n 1, 1) := by decide +kernel
theorem dX12_lostCount_2 : decode cX12_lostCount 2 = .ok (.invokevirtual 312, 3) := by decide +kernel
theorem dX12_lostCount_5 : decode cX12_lostCount 5 = .ok (.ifCond .eq 7, 3) := by decide +kernel
theorem dX12_lostCount_8 : decode cX12_lostCount 8 = .ok (.iconst 0, 1) := by decide +kernel
theorem dX12_lostCount_9 : decode cX12_lostCount 9 = .ok (.goto 7, 3) := by decide +kernel
theorem dX12_lostCount_12 : decode cX12_lostCount 12 = .ok (.aload_n 0, 1) := by decide +kernel
theorem dX12_lostCount_13 : decode cX12_lostCount 13 = .ok (.invokevirtual 315, 3) := by decide +kernel
theorem dX12_lostCount_16 : decode cX12_lostCount 16 = .ok (.ireturn, 1) := by decide +kernel
theorem dX12_loop_0 : decode cX12_loop 0 = .ok (.aload_n 0, 1) := by decide +kernel
theorem dX12_loop_1 : decode cX12_loop 1 = .ok (.getfield 7, 3) := by decide +kernel
theorem dX12_loop_4 : decode cX12_loop 4 = .ok (.bipush 20, 2) := by decide +kernel
theorem dX12_loop_6 : decode cX12_loop 6 = .ok (.iconst 2, 1) := by decide +kernel
theorem dX12_loop_7 : decode cX12_loop 7 = .ok (.iload_n 1, 1) := by decide +kernel
theorem dX12_loop_8 : decode cX12_loop 8 = .ok (.imul, 1) := by decide +kernel
theorem dX12_loop_9 : decode cX12_loop 9 = .ok (.iadd, 1) := by decide +kernel
theorem dX12_loop_10 : decode cX12_loop 10 = .ok (.iaload, 1) := by decide +kernel
theorem dX12_loop_11 : decode cX12_loop 11 = .ok (.istore 4, 2) := by decide +kernel
theorem dX12_loop_13 : decode cX12_loop 13 = .ok (.aload_n 0, 1) := by decide +kernel
theorem dX12_loop_14 : decode cX12_loop 14 = .ok (.getfield 7, 3) := by decide +kernel
theorem dX12_loop_17 : decode cX12_loop 17 = .ok (.bipush 20, 2) := by decide +kernel
theorem dX12_loop_19 : decode cX12_loop 19 = .ok (.iconst 2, 1) := by decide +kernel
theorem dX12_loop_20 : decode cX12_loop 20 = .ok (.iload_n 1, 1) := by decide +kernel
theorem dX12_loop_21 : decode cX12_loop 21 = .ok (.imul, 1) := by decide +kernel
theorem dX12_loop_22 : decode cX12_loop 22 = .ok (.iadd, 1) := by decide +kernel
theorem dX12_loop_23 : decode cX12_loop 23 = .ok (.iconst 1, 1) := by decide +kernel
theorem dX12_loop_24 : decode cX12_loop 24 = .ok (.iadd, 1) := by decide +kernel
theorem dX12_loop_25 : decode cX12_loop 25 = .ok (.iaload, 1) := by decide +kernel
theorem dX12_loop_26 : decode cX12_loop 26 = .ok (.istore 5, 2) := by decide +kernel
theorem dX12_loop_28 : decode cX12_loop 28 = .ok (.aload_n 0, 1) := by decide +kernel
theorem dX12_loop_29 : decode cX12_loop 29 = .ok (.getfield 259, 3) := by decide +kernel
theorem dX12_loop_32 : decode cX12_loop 32 = .ok (.ifCond .lt 21, 3) := by decide +kernel
theorem dX12_loop_35 : decode cX12_loop 35 = .ok (.aload_n 0, 1) := by decide +kernel
theorem dX12_loop_36 : decode cX12_loop 36 = .ok (.getfield 27, 3) := by decide +kernel
theorem dX12_loop_39 : decode cX12_loop 39 = .ok (.iload_n 2, 1) := by decide +kernel
theorem dX12_loop_40 : decode cX12_loop 40 = .ok (.baload, 1) := by decide +kernel
theorem dX12_loop_41 : decode cX12_loop 41 = .ok (.ifCond .eq 12, 3) := by decide +kernel
theorem dX12_loop_44 : decode cX12_loop 44 = .ok (.aload_n 0, 1) := by decide +kernel
theorem dX12_loop_45 : decode cX12_loop 45 = .ok (.getfield 27, 3) := by decide +kernel
theorem dX12_loop_48 : decode cX12_loop 48 = .ok (.iload_n 3, 1) := by decide +kernel
theorem dX12_loop_49 : decode cX12_loop 49 = .ok (.baload, 1) := by decide +kernel
theorem dX12_loop_50 : decode cX12_loop 50 = .ok (.ifCond .ne 5, 3) := by decide +kernel
theorem dX12_loop_53 : decode cX12_loop 53 = .ok (.iconst (-1), 1) := by decide +kernel
theorem dX12_loop_54 : decode cX12_loop 54 = .ok (.ireturn, 1) := by decide +kernel
theorem dX12_loop_55 : decode cX12_loop 55 = .ok (.aload_n 0, 1) := by decide +kernel
theorem dX12_loop_56 : decode cX12_loop 56 = .ok (.aload_n 0, 1) := by decide +kernel
theorem dX12_loop_57 : decode cX12_loop 57 = .ok (.getfield 259, 3) := by decide +kernel
theorem dX12_loop_60 : decode cX12_loop 60 = .ok (.iload 4, 2) := by decide +kernel
theorem dX12_loop_62 : decode cX12_loop 62 = .ok (.iload 5, 2) := by decide +kernel
theorem dX12_loop_64 : decode cX12_loop 64 = .ok (.iload_n 2, 1) := by decide +kernel
theorem dX12_loop_65 : decode cX12_loop 65 = .ok (.invokevirtual 293, 3) := by decide +kernel
theorem dX12_loop_68 : decode cX12_loop 68 = .ok (.ifCond .eq 40, 3) := by decide +kernel
theorem dX12_loop_71 : decode cX12_loop 71 = .ok (.aload_n 0, 1) := by decide +kernel
theorem dX12_loop_72 : decode cX12_loop 72 = .ok (.iload_n 2, 1) := by decide +kernel
theorem dX12_loop_73 : decode cX12_loop 73 = .ok (.aload_n 0, 1) := by decide +kernel
theorem dX12_loop_74 : decode cX12_loop 74 = .ok (.getfield 287, 3) := by decide +kernel
theorem dX12_loop_77 : decode cX12_loop 77 = .ok (.aload_n 0, 1) := by decide +kernel
theorem dX12_loop_78 : decode cX12_loop 78 = .ok (.getfield 290, 3) := by decide +kernel
theorem dX12_loop_81 : decode cX12_loop 81 = .ok (.iload_n 3, 1) := by decide +kernel
theorem dX12_loop_82 : decode cX12_loop 82 = .ok (.invokevirtual 293, 3) := by decide +kernel
theorem dX12_loop_85 : decode cX12_loop 85 = .ok (.ifCond .eq 23, 3) := by decide +kernel
theorem dX12_loop_88 : decode cX12_loop 88 = .ok (.aload_n 0, 1) := by decide +kernel
theorem dX12_loop_89 : decode cX12_loop 89 = .ok (.iload_n 3, 1) := by decide +kernel
theorem dX12_loop_90 : decode cX12_loop 90 = .ok (.aload_n 0, 1) := by decide +kernel
theorem dX12_loop_91 : decode cX12_loop 91 = .ok (.getfield 287, 3) := by decide +kernel
theorem dX12_loop_94 : decode cX12_loop 94 = .ok (.aload_n 0, 1) := by decide +kernel
theorem dX12_loop_95 : decode cX12_loop 95 = .ok (.getfield 290, 3) := by decide +kernel
theorem dX12_loop_98 : decode cX12_loop 98 = .ok (.aload_n 0, 1) := by decide +kernel
theorem dX12_loop_99 : decode cX12_loop 99 = .ok (.getfield 259, 3) := by decide +kernel
theorem dX12_loop_102 : decode cX12_loop 102 = .ok (.invokevirtual 293, 3) := by decide +kernel
theorem dX12_loop_105 : decode cX12_loop 105 = .ok (.ifCond .ne 5, 3) := by decide +kernel
theorem dX12_loop_108 : decode cX12_loop 108 = .ok (.iconst (-1), 1) := by decide +kernel
theorem dX12_loop_109 : decode cX12_loop 109 = .ok (.ireturn, 1) := by decide +kernel
theorem dX12_loop_110 : decode cX12_loop 110 = .ok (.aload_n 0, 1) := by decide +kernel
theorem dX12_loop_111 : decode cX12_loop 111 = .ok (.getfield 287, 3) := by decide +kernel
theorem dX12_loop_114 : decode cX12_loop 114 = .ok (.iload 4, 2) := by decide +kernel
theorem dX12_loop_116 : decode cX12_loop 116 = .ok (.isub, 1) := by decide +kernel
theorem dX12_loop_117 : decode cX12_loop 117 = .ok (.invokestatic 253, 3) := by decide +kernel
theorem dX12_loop_120 : decode cX12_loop 120 = .ok (.aload_n 0, 1) := by decide +kernel
theorem dX12_loop_121 : decode cX12_loop 121 = .ok (.getfield 290, 3) := by decide +kernel
theorem dX12_loop_124 : decode cX12_loop 124 = .ok (.iload 5, 2) := by decide +kernel
theorem dX12_loop_126 : decode cX12_loop 126 = .ok (.isub, 1) := by decide +kernel
theorem dX12_loop_127 : decode cX12_loop 127 = .ok (.invokestatic 253, 3) := by decide +kernel
theorem dX12_loop_130 : decode cX12_loop 130 = .ok (.iadd, 1) := by decide +kernel
theorem dX12_loop_131 : decode cX12_loop 131 = .ok (.ireturn, 1) := by decide +kernel
theorem dX12_loopError_0 : decode cX12_loopError 0 = .ok (.aload_n 0, 1) := by decide +kernel
theorem dX12_loopError_1 : decode cX12_loopError 1 = .ok (.aload_n 0, 1) := by decide +kernel
theorem dX12_loopError_2 : decode cX12_loopError 2 = .ok (.iload_n 1, 1) := by decide +kernel
theorem dX12_loopError_3 : decode cX12_loopError 3 = .ok (.invokevirtual 241, 3) := by decide +kernel
theorem dX12_loopError_6 : decode cX12_loopError 6 = .ok (.ifCond .eq 23, 3) := by decide +kernel
theorem dX12_loopError_9 : decode cX12_loopError 9 = .ok (.aload_n 0, 1) := by decide +kernel
theorem dX12_loopError_10 : decode cX12_loopError 10 = .ok (.iload_n 2, 1) := by decide +kernel
theorem dX12_loopError_11 : decode cX12_loopError 11 = .ok (.invokevirtual 222, 3) := by decide +kernel
theorem dX12_loopError_14 : decode cX12_loopError 14 = .ok (.ifCond .eq 15, 3) := by decide +kernel
theorem dX12_loopError_17 : decode cX12_loopError 17 = .ok (.aload_n 0, 1) := by decide +kernel
theorem dX12_loopError_18 : decode cX12_loopError 18 = .ok (.iload_n 3, 1) := by decide +kernel
theorem dX12_loopError_19 : decode cX12_loopError 19 = .ok (.invokevirtual 222, 3) := by decide +kernel
theorem dX12_loopError_22 : decode cX12_loopError 22 = .ok (.ifCond .eq 7, 3) := by decide +kernel
theorem dX12_loopError_25 : decode cX12_loopError 25 = .ok (.iconst 1, 1) := by decide +kernel
theorem dX12_loopError_26 : decode cX12_loopError 26 = .ok (.goto 4, 3) := by decide +kernel
theorem dX12_loopError_29 : decode cX12_loopError 29 = .ok (.iconst 0, 1) := by decide +kernel
theorem dX12_loopError_30 : decode cX12_loopError 30 = .ok (.invokevirtual 226, 3) := by decide +kernel
theorem dX12_loopError_33 : decode cX12_loopError 33 = .ok (.ifCond .eq 5, 3) := by decide +kernel
theorem dX12_loopError_36 : decode cX12_loopError 36 = .ok (.iconst 0, 1) := by decide +kernel
theorem dX12_loopError_37 : decode cX12_loopError 37 = .ok (.ireturn, 1) := by decide +kernel
theorem dX12_loopError_38 : decode cX12_loopError 38 = .ok (.aload_n 0, 1) := by decide +kernel
theorem dX12_loopError_39 : decode cX12_loopError 39 = .ok (.invokevirtual 272, 3) := by decide +kernel
theorem dX12_loopError_42 : decode cX12_loopError 42 = .ok (.aload_n 0, 1) := by decide +kernel
theorem dX12_loopError_43 : decode cX12_loopError 43 = .ok (.iload_n 1, 1) := by decide +kernel
theorem dX12_loopError_44 : decode cX12_loopError 44 = .ok (.iload_n 2, 1) := by decide +kernel
theorem dX12_loopError_45 : decode cX12_loopError 45 = .ok (.iload_n 3, 1) := by decide +kernel
theorem dX12_loopError_46 : decode cX12_loopError 46 = .ok (.invokevirtual 318, 3) := by decide +kernel
theorem dX12_loopError_49 : decode cX12_loopError 49 = .ok (.ireturn, 1) := by decide +kernel
theorem dX12_closedLoops_0 : decode cX12_closedLoops 0 = .ok (.aload_n 0, 1) := by decide +kernel
theorem dX12_closedLoops_1 : decode cX12_closedLoops 1 = .ok (.aload_n 0, 1) := by decide +kernel
theorem dX12_closedLoops_2 : decode cX12_closedLoops 2 = .ok (.iload_n 1, 1) := by decide +kernel
theorem dX12_closedLoops_3 : decode cX12_closedLoops 3 = .ok (.invokevirtual 241, 3) := by decide +kernel
theorem dX12_closedLoops_6 : decode cX12_closedLoops 6 = .ok (.invokevirtual 226, 3) := by decide +kernel
theorem dX12_closedLoops_9 : decode cX12_closedLoops 9 = .ok (.ifCond .eq 5, 3) := by decide +kernel
theorem dX12_closedLoops_12 : decode cX12_closedLoops 12 = .ok (.iconst 0, 1) := by decide +kernel
theorem dX12_closedLoops_13 : decode cX12_closedLoops 13 = .ok (.ireturn, 1) := by decide +kernel
theorem dX12_closedLoops_14 : decode cX12_closedLoops 14 = .ok (.aload_n 0, 1) := by decide +kernel
theorem dX12_closedLoops_15 : decode cX12_closedLoops 15 = .ok (.invokevirtual 272, 3) := by decide +kernel
theorem dX12_closedLoops_18 : decode cX12_closedLoops 18 = .ok (.iconst 0, 1) := by decide +kernel
theorem dX12_closedLoops_19 : decode cX12_closedLoops 19 = .ok (.istore_n 2, 1) := by decide +kernel
theorem dX12_closedLoops_20 : decode cX12_closedLoops 20 = .ok (.aload_n 0, 1) := by decide +kernel
theorem dX12_closedLoops_21 : decode cX12_closedLoops 21 = .ok (.getfield 259, 3) := by decide +kernel
theorem dX12_closedLoops_24 : decode cX12_closedLoops 24 = .ok (.iconst 1, 1) := by decide +kernel
theorem dX12_closedLoops_25 : decode cX12_closedLoops 25 = .ok (.iadd, 1) := by decide +kernel
theorem dX12_closedLoops_26 : decode cX12_closedLoops 26 = .ok (.istore_n 3, 1) := by decide +kernel
theorem dX12_closedLoops_27 : decode cX12_closedLoops 27 = .ok (.aload_n 0, 1) := by decide +kernel
theorem dX12_closedLoops_28 : decode cX12_closedLoops 28 = .ok (.getfield 259, 3) := by decide +kernel
theorem dX12_closedLoops_31 : decode cX12_closedLoops 31 = .ok (.ifCond .lt 60, 3) := by decide +kernel
theorem dX12_closedLoops_34 : decode cX12_closedLoops 34 = .ok (.iload_n 3, 1) := by decide +kernel
theorem dX12_closedLoops_35 : decode cX12_closedLoops 35 = .ok (.aload_n 0, 1) := by decide +kernel
theorem dX12_closedLoops_36 : decode cX12_closedLoops 36 = .ok (.getfield 7, 3) := by decide +kernel
theorem dX12_closedLoops_39 : decode cX12_closedLoops 39 = .ok (.iconst 2, 1) := by decide +kernel
theorem dX12_closedLoops_40 : decode cX12_closedLoops 40 = .ok (.iaload, 1) := by decide +kernel
theorem dX12_closedLoops_41 : decode cX12_closedLoops 41 = .ok (.if_icmp .ge 50, 3) := by decide +kernel
theorem dX12_closedLoops_44 : decode cX12_closedLoops 44 = .ok (.iload_n 3, 1) := by decide +kernel
theorem dX12_closedLoops_45 : decode cX12_closedLoops 45 = .ok (.iconst 1, 1) := by decide +kernel
theorem dX12_closedLoops_46 : decode cX12_closedLoops 46 = .ok (.iadd, 1) := by decide +kernel
theorem dX12_closedLoops_47 : decode cX12_closedLoops 47 = .ok (.istore 4, 2) := by decide +kernel
theorem dX12_closedLoops_49 : decode cX12_closedLoops 49 = .ok (.iload 4, 2) := by decide +kernel
theorem dX12_closedLoops_51 : decode cX12_closedLoops 51 = .ok (.aload_n 0, 1) := by decide +kernel
theorem dX12_closedLoops_52 : decode cX12_closedLoops 52 = .ok (.getfield 7, 3) := by decide +kernel
theorem dX12_closedLoops_55 : decode cX12_closedLoops 55 = .ok (.iconst 2, 1) := by decide +kernel
theorem dX12_closedLoops_56 : decode cX12_closedLoops 56 = .ok (.iaload, 1) := by decide +kernel
theorem dX12_closedLoops_57 : decode cX12_closedLoops 57 = .ok (.if_icmp .ge 28, 3) := by decide +kernel
theorem dX12_closedLoops_60 : decode cX12_closedLoops 60 = .ok (.iload_n 2, 1) := by decide +kernel
theorem dX12_closedLoops_61 : decode cX12_closedLoops 61 = .ok (.aload_n 0, 1) := by decide +kernel
theorem dX12_closedLoops_62 : decode cX12_closedLoops 62 = .ok (.iload_n 1, 1) := by decide +kernel
theorem dX12_closedLoops_63 : decode cX12_closedLoops 63 = .ok (.iload_n 3, 1) := by decide +kernel
theorem dX12_closedLoops_64 : decode cX12_closedLoops 64 = .ok (.iload 4, 2) := by decide +kernel
theorem dX12_closedLoops_66 : decode cX12_closedLoops 66 = .ok (.invokevirtual 318, 3) := by decide +kernel
theorem dX12_closedLoops_69 : decode cX12_closedLoops 69 = .ok (.ifCond .ne 7, 3) := by decide +kernel
theorem dX12_closedLoops_72 : decode cX12_closedLoops 72 = .ok (.iconst 1, 1) := by decide +kernel
theorem dX12_closedLoops_73 : decode cX12_closedLoops 73 = .ok (.goto 4, 3) := by decide +kernel
theorem dX12_closedLoops_76 : decode cX12_closedLoops 76 = .ok (.iconst 0, 1) := by decide +kernel
theorem dX12_closedLoops_77 : decode cX12_closedLoops 77 = .ok (.iadd, 1) := by decide +kernel
theorem dX12_closedLoops_78 : decode cX12_closedLoops 78 = .ok (.istore_n 2, 1) := by decide +kernel
theorem dX12_closedLoops_79 : decode cX12_closedLoops 79 = .ok (.iinc 4 1, 3) := by decide +kernel
theorem dX12_closedLoops_82 : decode cX12_closedLoops 82 = .ok (.goto (-33), 3) := by decide +kernel
theorem dX12_closedLoops_85 : decode cX12_closedLoops 85 = .ok (.iinc 3 1, 3) := by decide +kernel
theorem dX12_closedLoops_88 : decode cX12_closedLoops 88 = .ok (.goto (-61), 3) := by decide +kernel
theorem dX12_closedLoops_91 : decode cX12_closedLoops 91 = .ok (.iload_n 2, 1) := by decide +kernel
theorem dX12_closedLoops_92 : decode cX12_closedLoops 92 = .ok (.ireturn, 1) := by decide +kernel
theorem dX12_leastTolerance_0 : decode cX12_leastTolerance 0 = .ok (.aload_n 0, 1) := by decide +kernel
theorem dX12_leastTolerance_1 : decode cX12_leastTolerance 1 = .ok (.aload_n 0, 1) := by decide +kernel
theorem dX12_leastTolerance_2 : decode cX12_leastTolerance 2 = .ok (.iload_n 1, 1) := by decide +kernel
theorem dX12_leastTolerance_3 : decode cX12_leastTolerance 3 = .ok (.invokevirtual 241, 3) := by decide +kernel
theorem dX12_leastTolerance_6 : decode cX12_leastTolerance 6 = .ok (.invokevirtual 226, 3) := by decide +kernel
theorem dX12_leastTolerance_9 : decode cX12_leastTolerance 9 = .ok (.ifCond .eq 5, 3) := by decide +kernel
theorem dX12_leastTolerance_12 : decode cX12_leastTolerance 12 = .ok (.iconst 0, 1) := by decide +kernel
theorem dX12_leastTolerance_13 : decode cX12_leastTolerance 13 = .ok (.ireturn, 1) := by decide +kernel
theorem dX12_leastTolerance_14 : decode cX12_leastTolerance 14 = .ok (.iconst 0, 1) := by decide +kernel
theorem dX12_leastTolerance_15 : decode cX12_leastTolerance 15 = .ok (.istore_n 2, 1) := by decide +kernel
theorem dX12_leastTolerance_16 : decode cX12_leastTolerance 16 = .ok (.iload_n 2, 1) := by decide +kernel
theorem dX12_leastTolerance_17 : decode cX12_leastTolerance 17 = .ok (.bipush 9, 2) := by decide +kernel
theorem dX12_leastTolerance_19 : decode cX12_leastTolerance 19 = .ok (.if_icmp .gt 31, 3) := by decide +kernel
theorem dX12_leastTolerance_22 : decode cX12_leastTolerance 22 = .ok (.aload_n 0, 1) := by decide +kernel
theorem dX12_leastTolerance_23 : decode cX12_leastTolerance 23 = .ok (.iload_n 1, 1) := by decide +kernel
theorem dX12_leastTolerance_24 : decode cX12_leastTolerance 24 = .ok (.iload_n 2, 1) := by decide +kernel
theorem dX12_leastTolerance_25 : decode cX12_leastTolerance 25 = .ok (.invokevirtual 309, 3) := by decide +kernel
theorem dX12_leastTolerance_28 : decode cX12_leastTolerance 28 = .ok (.aload_n 0, 1) := by decide +kernel
theorem dX12_leastTolerance_29 : decode cX12_leastTolerance 29 = .ok (.getfield 259, 3) := by decide +kernel
theorem dX12_leastTolerance_32 : decode cX12_leastTolerance 32 = .ok (.ifCond .lt 12, 3) := by decide +kernel
theorem dX12_leastTolerance_35 : decode cX12_leastTolerance 35 = .ok (.aload_n 0, 1) := by decide +kernel
theorem dX12_leastTolerance_36 : decode cX12_leastTolerance 36 = .ok (.invokevirtual 315, 3) := by decide +kernel
theorem dX12_leastTolerance_39 : decode cX12_leastTolerance 39 = .ok (.ifCond .ne 5, 3) := by decide +kernel
theorem dX12_leastTolerance_42 : decode cX12_leastTolerance 42 = .ok (.iload_n 2, 1) := by decide +kernel
theorem dX12_leastTolerance_43 : decode cX12_leastTolerance 43 = .ok (.ireturn, 1) := by decide +kernel
theorem dX12_leastTolerance_44 : decode cX12_leastTolerance 44 = .ok (.iinc 2 1, 3) := by decide +kernel
theorem dX12_leastTolerance_47 : decode cX12_leastTolerance 47 = .ok (.goto (-31), 3) := by decide +kernel
theorem dX12_leastTolerance_50 : decode cX12_leastTolerance 50 = .ok (.iconst (-1), 1) := by decide +kernel
theorem dX12_leastTolerance_51 : decode cX12_leastTolerance 51 = .ok (.ireturn, 1) := by decide +kernel
theorem dX12_rootOf_0 : decode cX12_rootOf 0 = .ok (.iconst 0, 1) := by decide +kernel
theorem dX12_rootOf_1 : decode cX12_rootOf 1 = .ok (.istore_n 1, 1) := by decide +kernel
theorem dX12_rootOf_2 : decode cX12_rootOf 2 = .ok (.ldc_w 321, 3) := by decide +kernel
theorem dX12_rootOf_5 : decode cX12_rootOf 5 = .ok (.istore_n 2, 1) := by decide +kernel
theorem dX12_rootOf_6 : decode cX12_rootOf 6 = .ok (.iload_n 1, 1) := by decide +kernel
theorem dX12_rootOf_7 : decode cX12_rootOf 7 = .ok (.iload_n 2, 1) := by decide +kernel
theorem dX12_rootOf_8 : decode cX12_rootOf 8 = .ok (.if_icmp .ge 30, 3) := by decide +kernel
theorem dX12_rootOf_11 : decode cX12_rootOf 11 = .ok (.iload_n 1, 1) := by decide +kernel
theorem dX12_rootOf_12 : decode cX12_rootOf 12 = .ok (.iload_n 2, 1) := by decide +kernel
theorem dX12_rootOf_13 : decode cX12_rootOf 13 = .ok (.iadd, 1) := by decide +kernel
theorem dX12_rootOf_14 : decode cX12_rootOf 14 = .ok (.iconst 1, 1) := by decide +kernel
theorem dX12_rootOf_15 : decode cX12_rootOf 15 = .ok (.iadd, 1) := by decide +kernel
theorem dX12_rootOf_16 : decode cX12_rootOf 16 = .ok (.iconst 2, 1) := by decide +kernel
theorem dX12_rootOf_17 : decode cX12_rootOf 17 = .ok (.idiv, 1) := by decide +kernel
theorem dX12_rootOf_18 : decode cX12_rootOf 18 = .ok (.istore_n 3, 1) := by decide +kernel
theorem dX12_rootOf_19 : decode cX12_rootOf 19 = .ok (.iload_n 3, 1) := by decide +kernel
theorem dX12_rootOf_20 : decode cX12_rootOf 20 = .ok (.iload_n 3, 1) := by decide +kernel
theorem dX12_rootOf_21 : decode cX12_rootOf 21 = .ok (.imul, 1) := by decide +kernel
theorem dX12_rootOf_22 : decode cX12_rootOf 22 = .ok (.iload_n 0, 1) := by decide +kernel
theorem dX12_rootOf_23 : decode cX12_rootOf 23 = .ok (.if_icmp .gt 8, 3) := by decide +kernel
theorem dX12_rootOf_26 : decode cX12_rootOf 26 = .ok (.iload_n 3, 1) := by decide +kernel
theorem dX12_rootOf_27 : decode cX12_rootOf 27 = .ok (.istore_n 1, 1) := by decide +kernel
theorem dX12_rootOf_28 : decode cX12_rootOf 28 = .ok (.goto 7, 3) := by decide +kernel
theorem dX12_rootOf_31 : decode cX12_rootOf 31 = .ok (.iload_n 3, 1) := by decide +kernel
theorem dX12_rootOf_32 : decode cX12_rootOf 32 = .ok (.iconst 1, 1) := by decide +kernel
theorem dX12_rootOf_33 : decode cX12_rootOf 33 = .ok (.isub, 1) := by decide +kernel
theorem dX12_rootOf_34 : decode cX12_rootOf 34 = .ok (.istore_n 2, 1) := by decide +kernel
theorem dX12_rootOf_35 : decode cX12_rootOf 35 = .ok (.goto (-29), 3) := by decide +kernel
theorem dX12_rootOf_38 : decode cX12_rootOf 38 = .ok (.iload_n 1, 1) := by decide +kernel
theorem dX12_rootOf_39 : decode cX12_rootOf 39 = .ok (.ireturn, 1) := by decide +kernel
theorem dX12_trueX_0 : decode cX12_trueX 0 = .ok (.aload_n 0, 1) := by decide +kernel
theorem dX12_trueX_1 : decode cX12_trueX 1 = .ok (.getfield 43, 3) := by decide +kernel
theorem dX12_trueX_4 : decode cX12_trueX 4 = .ok (.iload_n 1, 1) := by decide +kernel
theorem dX12_trueX_5 : decode cX12_trueX 5 = .ok (.iaload, 1) := by decide +kernel
theorem dX12_trueX_6 : decode cX12_trueX 6 = .ok (.aload_n 0, 1) := by decide +kernel
theorem dX12_trueX_7 : decode cX12_trueX 7 = .ok (.getfield 31, 3) := by decide +kernel
theorem dX12_trueX_10 : decode cX12_trueX 10 = .ok (.iload_n 1, 1) := by decide +kernel
theorem dX12_trueX_11 : decode cX12_trueX 11 = .ok (.iaload, 1) := by decide +kernel
theorem dX12_trueX_12 : decode cX12_trueX 12 = .ok (.isub, 1) := by decide +kernel
theorem dX12_trueX_13 : decode cX12_trueX 13 = .ok (.ireturn, 1) := by decide +kernel
theorem dX12_trueY_0 : decode cX12_trueY 0 = .ok (.aload_n 0, 1) := by decide +kernel
theorem dX12_trueY_1 : decode cX12_trueY 1 = .ok (.getfield 46, 3) := by decide +kernel
theorem dX12_trueY_4 : decode cX12_trueY 4 = .ok (.iload_n 1, 1) := by decide +kernel
theorem dX12_trueY_5 : decode cX12_trueY 5 = .ok (.iaload, 1) := by decide +kernel
theorem dX12_trueY_6 : decode cX12_trueY 6 = .ok (.aload_n 0, 1) := by decide +kernel
theorem dX12_trueY_7 : decode cX12_trueY 7 = .ok (.getfield 34, 3) := by decide +kernel
theorem dX12_trueY_10 : decode cX12_trueY 10 = .ok (.iload_n 1, 1) := by decide +kernel
theorem dX12_trueY_11 : decode cX12_trueY 11 = .ok (.iaload, 1) := by decide +kernel
theorem dX12_trueY_12 : decode cX12_trueY 12 = .ok (.isub, 1) := by decide +kernel
theorem dX12_trueY_13 : decode cX12_trueY 13 = .ok (.ireturn, 1) := by decide +kernel
theorem dX12_cut_0 : decode cX12_cut 0 = .ok (.aload_n 0, 1) := by decide +kernel
theorem dX12_cut_1 : decode cX12_cut 1 = .ok (.iconst 0, 1) := by decide +kernel
theorem dX12_cut_2 : decode cX12_cut 2 = .ok (.putfield 322, 3) := by decide +kernel
theorem dX12_cut_5 : decode cX12_cut 5 = .ok (.iconst (-1), 1) := by decide +kernel
theorem dX12_cut_6 : decode cX12_cut 6 = .ok (.istore_n 2, 1) := by decide +kernel
theorem dX12_cut_7 : decode cX12_cut 7 = .ok (.iconst 0, 1) := by decide +kernel
theorem dX12_cut_8 : decode cX12_cut 8 = .ok (.istore_n 3, 1) := by decide +kernel
theorem dX12_cut_9 : decode cX12_cut 9 = .ok (.iload_n 3, 1) := by decide +kernel
theorem dX12_cut_10 : decode cX12_cut 10 = .ok (.aload_n 0, 1) := by decide +kernel
theorem dX12_cut_11 : decode cX12_cut 11 = .ok (.getfield 7, 3) := by decide +kernel
theorem dX12_cut_14 : decode cX12_cut 14 = .ok (.iconst 2, 1) := by decide +kernel
theorem dX12_cut_15 : decode cX12_cut 15 = .ok (.iaload, 1) := by decide +kernel
theorem dX12_cut_16 : decode cX12_cut 16 = .ok (.if_icmp .ge 110, 3) := by decide +kernel
theorem dX12_cut_19 : decode cX12_cut 19 = .ok (.aload_n 0, 1) := by decide +kernel
theorem dX12_cut_20 : decode cX12_cut 20 = .ok (.getfield 40, 3) := by decide +kernel
theorem dX12_cut_23 : decode cX12_cut 23 = .ok (.iload_n 3, 1) := by decide +kernel
theorem dX12_cut_24 : decode cX12_cut 24 = .ok (.baload, 1) := by decide +kernel
theorem dX12_cut_25 : decode cX12_cut 25 = .ok (.ifCond .ne 6, 3) := by decide +kernel
theorem dX12_cut_28 : decode cX12_cut 28 = .ok (.goto 92, 3) := by decide +kernel
theorem dX12_cut_31 : decode cX12_cut 31 = .ok (.iload_n 2, 1) := by decide +kernel
theorem dX12_cut_32 : decode cX12_cut 32 = .ok (.ifCond .lt 86, 3) := by decide +kernel
theorem dX12_cut_35 : decode cX12_cut 35 = .ok (.aload_n 0, 1) := by decide +kernel
theorem dX12_cut_36 : decode cX12_cut 36 = .ok (.iload_n 3, 1) := by decide +kernel
theorem dX12_cut_37 : decode cX12_cut 37 = .ok (.invokevirtual 325, 3) := by decide +kernel
theorem dX12_cut_40 : decode cX12_cut 40 = .ok (.aload_n 0, 1) := by decide +kernel
theorem dX12_cut_41 : decode cX12_cut 41 = .ok (.iload_n 2, 1) := by decide +kernel
theorem dX12_cut_42 : decode cX12_cut 42 = .ok (.invokevirtual 325, 3) := by decide +kernel
theorem dX12_cut_45 : decode cX12_cut 45 = .ok (.isub, 1) := by decide +kernel
theorem dX12_cut_46 : decode cX12_cut 46 = .ok (.istore 4, 2) := by decide +kernel
theorem dX12_cut_48 : decode cX12_cut 48 = .ok (.aload_n 0, 1) := by decide +kernel
theorem dX12_cut_49 : decode cX12_cut 49 = .ok (.iload_n 3, 1) := by decide +kernel
theorem dX12_cut_50 : decode cX12_cut 50 = .ok (.invokevirtual 328, 3) := by decide +kernel
theorem dX12_cut_53 : decode cX12_cut 53 = .ok (.aload_n 0, 1) := by decide +kernel
theorem dX12_cut_54 : decode cX12_cut 54 = .ok (.iload_n 2, 1) := by decide +kernel
theorem dX12_cut_55 : decode cX12_cut 55 = .ok (.invokevirtual 328, 3) := by decide +kernel
theorem dX12_cut_58 : decode cX12_cut 58 = .ok (.isub, 1) := by decide +kernel
theorem dX12_cut_59 : decode cX12_cut 59 = .ok (.istore 5, 2) := by decide +kernel
theorem dX12_cut_61 : decode cX12_cut 61 = .ok (.aload_n 0, 1) := by decide +kernel
theorem dX12_cut_62 : decode cX12_cut 62 = .ok (.getfield 49, 3) := by decide +kernel
theorem dX12_cut_65 : decode cX12_cut 65 = .ok (.aload_n 0, 1) := by decide +kernel
theorem dX12_cut_66 : decode cX12_cut 66 = .ok (.getfield 322, 3) := by decide +kernel
theorem dX12_cut_69 : decode cX12_cut 69 = .ok (.iload_n 2, 1) := by decide +kernel
theorem dX12_cut_70 : decode cX12_cut 70 = .ok (.iastore, 1) := by decide +kernel
theorem dX12_cut_71 : decode cX12_cut 71 = .ok (.aload_n 0, 1) := by decide +kernel
theorem dX12_cut_72 : decode cX12_cut 72 = .ok (.getfield 52, 3) := by decide +kernel
theorem dX12_cut_75 : decode cX12_cut 75 = .ok (.aload_n 0, 1) := by decide +kernel
theorem dX12_cut_76 : decode cX12_cut 76 = .ok (.getfield 322, 3) := by decide +kernel
theorem dX12_cut_79 : decode cX12_cut 79 = .ok (.iload_n 3, 1) := by decide +kernel
theorem dX12_cut_80 : decode cX12_cut 80 = .ok (.iastore, 1) := by decide +kernel
theorem dX12_cut_81 : decode cX12_cut 81 = .ok (.aload_n 0, 1) := by decide +kernel
theorem dX12_cut_82 : decode cX12_cut 82 = .ok (.getfield 55, 3) := by decide +kernel
theorem dX12_cut_85 : decode cX12_cut 85 = .ok (.aload_n 0, 1) := by decide +kernel
theorem dX12_cut_86 : decode cX12_cut 86 = .ok (.getfield 322, 3) := by decide +kernel
theorem dX12_cut_89 : decode cX12_cut 89 = .ok (.iload 4, 2) := by decide +kernel
theorem dX12_cut_91 : decode cX12_cut 91 = .ok (.iload 4, 2) := by decide +kernel
theorem dX12_cut_93 : decode cX12_cut 93 = .ok (.imul, 1) := by decide +kernel
theorem dX12_cut_94 : decode cX12_cut 94 = .ok (.iload 5, 2) := by decide +kernel
theorem dX12_cut_96 : decode cX12_cut 96 = .ok (.iload 5, 2) := by decide +kernel
theorem dX12_cut_98 : decode cX12_cut 98 = .ok (.imul, 1) := by decide +kernel
theorem dX12_cut_99 : decode cX12_cut 99 = .ok (.iadd, 1) := by decide +kernel
theorem dX12_cut_100 : decode cX12_cut 100 = .ok (.iload_n 1, 1) := by decide +kernel
theorem dX12_cut_101 : decode cX12_cut 101 = .ok (.imul, 1) := by decide +kernel
theorem dX12_cut_102 : decode cX12_cut 102 = .ok (.iload_n 1, 1) := by decide +kernel
theorem dX12_cut_103 : decode cX12_cut 103 = .ok (.imul, 1) := by decide +kernel
theorem dX12_cut_104 : decode cX12_cut 104 = .ok (.invokestatic 331, 3) := by decide +kernel
theorem dX12_cut_107 : decode cX12_cut 107 = .ok (.iastore, 1) := by decide +kernel
theorem dX12_cut_108 : decode cX12_cut 108 = .ok (.aload_n 0, 1) := by decide +kernel
theorem dX12_cut_109 : decode cX12_cut 109 = .ok (.dup, 1) := by decide +kernel
theorem dX12_cut_110 : decode cX12_cut 110 = .ok (.getfield 322, 3) := by decide +kernel
theorem dX12_cut_113 : decode cX12_cut 113 = .ok (.iconst 1, 1) := by decide +kernel
theorem dX12_cut_114 : decode cX12_cut 114 = .ok (.iadd, 1) := by decide +kernel
theorem dX12_cut_115 : decode cX12_cut 115 = .ok (.putfield 322, 3) := by decide +kernel
theorem dX12_cut_118 : decode cX12_cut 118 = .ok (.iload_n 3, 1) := by decide +kernel
theorem dX12_cut_119 : decode cX12_cut 119 = .ok (.istore_n 2, 1) := by decide +kernel
theorem dX12_cut_120 : decode cX12_cut 120 = .ok (.iinc 3 1, 3) := by decide +kernel
theorem dX12_cut_123 : decode cX12_cut 123 = .ok (.goto (-114), 3) := by decide +kernel
theorem dX12_cut_126 : decode cX12_cut 126 = .ok (.return_, 1) := by decide +kernel
theorem dX12_noSegments_0 : decode cX12_noSegments 0 = .ok (.aload_n 0, 1) := by decide +kernel
theorem dX12_noSegments_1 : decode cX12_noSegments 1 = .ok (.iload_n 1, 1) := by decide +kernel
theorem dX12_noSegments_2 : decode cX12_noSegments 2 = .ok (.invokevirtual 312, 3) := by decide +kernel
theorem dX12_noSegments_5 : decode cX12_noSegments 5 = .ok (.ifCond .eq 5, 3) := by decide +kernel
theorem dX12_noSegments_8 : decode cX12_noSegments 8 = .ok (.iconst 1, 1) := by decide +kernel
theorem dX12_noSegments_9 : decode cX12_noSegments 9 = .ok (.ireturn, 1) := by decide +kernel
theorem dX12_noSegments_10 : decode cX12_noSegments 10 = .ok (.aload_n 0, 1) := by decide +kernel
theorem dX12_noSegments_11 : decode cX12_noSegments 11 = .ok (.aload_n 0, 1) := by decide +kernel
theorem dX12_noSegments_12 : decode cX12_noSegments 12 = .ok (.iconst 5, 1) := by decide +kernel
theorem dX12_noSegments_13 : decode cX12_noSegments 13 = .ok (.invokevirtual 216, 3) := by decide +kernel
theorem dX12_noSegments_16 : decode cX12_noSegments 16 = .ok (.invokevirtual 334, 3) := by decide +kernel
theorem dX12_noSegments_19 : decode cX12_noSegments 19 = .ok (.iconst 0, 1) := by decide +kernel
theorem dX12_noSegments_20 : decode cX12_noSegments 20 = .ok (.ireturn, 1) := by decide +kernel
theorem dX12_speedOf_0 : decode cX12_speedOf 0 = .ok (.aload_n 0, 1) := by decide +kernel
theorem dX12_speedOf_1 : decode cX12_speedOf 1 = .ok (.getfield 55, 3) := by decide +kernel
theorem dX12_speedOf_4 : decode cX12_speedOf 4 = .ok (.iload_n 1, 1) := by decide +kernel
theorem dX12_speedOf_5 : decode cX12_speedOf 5 = .ok (.iaload, 1) := by decide +kernel
theorem dX12_speedOf_6 : decode cX12_speedOf 6 = .ok (.aload_n 0, 1) := by decide +kernel
theorem dX12_speedOf_7 : decode cX12_speedOf 7 = .ok (.aload_n 0, 1) := by decide +kernel
theorem dX12_speedOf_8 : decode cX12_speedOf 8 = .ok (.getfield 52, 3) := by decide +kernel
theorem dX12_speedOf_11 : decode cX12_speedOf 11 = .ok (.iload_n 1, 1) := by decide +kernel
theorem dX12_speedOf_12 : decode cX12_speedOf 12 = .ok (.iaload, 1) := by decide +kernel
theorem dX12_speedOf_13 : decode cX12_speedOf 13 = .ok (.invokevirtual 230, 3) := by decide +kernel
theorem dX12_speedOf_16 : decode cX12_speedOf 16 = .ok (.aload_n 0, 1) := by decide +kernel
theorem dX12_speedOf_17 : decode cX12_speedOf 17 = .ok (.aload_n 0, 1) := by decide +kernel
theorem dX12_speedOf_18 : decode cX12_speedOf 18 = .ok (.getfield 49, 3) := by decide +kernel
theorem dX12_speedOf_21 : decode cX12_speedOf 21 = .ok (.iload_n 1, 1) := by decide +kernel
theorem dX12_speedOf_22 : decode cX12_speedOf 22 = .ok (.iaload, 1) := by decide +kernel
theorem dX12_speedOf_23 : decode cX12_speedOf 23 = .ok (.invokevirtual 230, 3) := by decide +kernel
theorem dX12_speedOf_26 : decode cX12_speedOf 26 = .ok (.isub, 1) := by decide +kernel
theorem dX12_speedOf_27 : decode cX12_speedOf 27 = .ok (.idiv, 1) := by decide +kernel
theorem dX12_speedOf_28 : decode cX12_speedOf 28 = .ok (.ireturn, 1) := by decide +kernel
theorem dX12_segmentCount_0 : decode cX12_segmentCount 0 = .ok (.aload_n 0, 1) := by decide +kernel
theorem dX12_segmentCount_1 : decode cX12_segmentCount 1 = .ok (.iload_n 1, 1) := by decide +kernel
theorem dX12_segmentCount_2 : decode cX12_segmentCount 2 = .ok (.invokevirtual 337, 3) := by decide +kernel
theorem dX12_segmentCount_5 : decode cX12_segmentCount 5 = .ok (.ifCond .eq 7, 3) := by decide +kernel
theorem dX12_segmentCount_8 : decode cX12_segmentCount 8 = .ok (.iconst 0, 1) := by decide +kernel
theorem dX12_segmentCount_9 : decode cX12_segmentCount 9 = .ok (.goto 7, 3) := by decide +kernel
theorem dX12_segmentCount_12 : decode cX12_segmentCount 12 = .ok (.aload_n 0, 1) := by decide +kernel
theorem dX12_segmentCount_13 : decode cX12_segmentCount 13 = .ok (.getfield 322, 3) := by decide +kernel
theorem dX12_segmentCount_16 : decode cX12_segmentCount 16 = .ok (.ireturn, 1) := by decide +kernel
theorem dX12_speed_0 : decode cX12_speed 0 = .ok (.aload_n 0, 1) := by decide +kernel
theorem dX12_speed_1 : decode cX12_speed 1 = .ok (.iload_n 1, 1) := by decide +kernel
theorem dX12_speed_2 : decode cX12_speed 2 = .ok (.invokevirtual 337, 3) := by decide +kernel
theorem dX12_speed_5 : decode cX12_speed 5 = .ok (.ifCond .eq 5, 3) := by decide +kernel
theorem dX12_speed_8 : decode cX12_speed 8 = .ok (.iconst 0, 1) := by decide +kernel
theorem dX12_speed_9 : decode cX12_speed 9 = .ok (.ireturn, 1) := by decide +kernel
theorem dX12_speed_10 : decode cX12_speed 10 = .ok (.aload_n 0, 1) := by decide +kernel
theorem dX12_speed_11 : decode cX12_speed 11 = .ok (.iload_n 2, 1) := by decide +kernel
theorem dX12_speed_12 : decode cX12_speed 12 = .ok (.iconst 0, 1) := by decide +kernel
theorem dX12_speed_13 : decode cX12_speed 13 = .ok (.aload_n 0, 1) := by decide +kernel
theorem dX12_speed_14 : decode cX12_speed 14 = .ok (.getfield 322, 3) := by decide +kernel
theorem dX12_speed_17 : decode cX12_speed 17 = .ok (.iconst 1, 1) := by decide +kernel
theorem dX12_speed_18 : decode cX12_speed 18 = .ok (.isub, 1) := by decide +kernel
theorem dX12_speed_19 : decode cX12_speed 19 = .ok (.invokestatic 119, 3) := by decide +kernel
theorem dX12_speed_22 : decode cX12_speed 22 = .ok (.invokevirtual 226, 3) := by decide +kernel
theorem dX12_speed_25 : decode cX12_speed 25 = .ok (.ifCond .eq 7, 3) := by decide +kernel
theorem dX12_speed_28 : decode cX12_speed 28 = .ok (.iconst 0, 1) := by decide +kernel
theorem dX12_speed_29 : decode cX12_speed 29 = .ok (.goto 8, 3) := by decide +kernel
theorem dX12_speed_32 : decode cX12_speed 32 = .ok (.aload_n 0, 1) := by decide +kernel
theorem dX12_speed_33 : decode cX12_speed 33 = .ok (.iload_n 2, 1) := by decide +kernel
theorem dX12_speed_34 : decode cX12_speed 34 = .ok (.invokevirtual 340, 3) := by decide +kernel
theorem dX12_speed_37 : decode cX12_speed 37 = .ok (.ireturn, 1) := by decide +kernel
theorem dX12_mean_0 : decode cX12_mean 0 = .ok (.aload_n 0, 1) := by decide +kernel
theorem dX12_mean_1 : decode cX12_mean 1 = .ok (.getfield 322, 3) := by decide +kernel
theorem dX12_mean_4 : decode cX12_mean 4 = .ok (.ifCond .ne 5, 3) := by decide +kernel
theorem dX12_mean_7 : decode cX12_mean 7 = .ok (.iconst 0, 1) := by decide +kernel
theorem dX12_mean_8 : decode cX12_mean 8 = .ok (.ireturn, 1) := by decide +kernel
theorem dX12_mean_9 : decode cX12_mean 9 = .ok (.iconst 0, 1) := by decide +kernel
theorem dX12_mean_10 : decode cX12_mean 10 = .ok (.istore_n 1, 1) := by decide +kernel
theorem dX12_mean_11 : decode cX12_mean 11 = .ok (.iconst 0, 1) := by decide +kernel
theorem dX12_mean_12 : decode cX12_mean 12 = .ok (.istore_n 2, 1) := by decide +kernel
theorem dX12_mean_13 : decode cX12_mean 13 = .ok (.iload_n 2, 1) := by decide +kernel
theorem dX12_mean_14 : decode cX12_mean 14 = .ok (.aload_n 0, 1) := by decide +kernel
theorem dX12_mean_15 : decode cX12_mean 15 = .ok (.getfield 322, 3) := by decide +kernel
theorem dX12_mean_18 : decode cX12_mean 18 = .ok (.if_icmp .ge 18, 3) := by decide +kernel
theorem dX12_mean_21 : decode cX12_mean 21 = .ok (.iload_n 1, 1) := by decide +kernel
theorem dX12_mean_22 : decode cX12_mean 22 = .ok (.aload_n 0, 1) := by decide +kernel
theorem dX12_mean_23 : decode cX12_mean 23 = .ok (.getfield 55, 3) := by decide +kernel
theorem dX12_mean_26 : decode cX12_mean 26 = .ok (.iload_n 2, 1) := by decide +kernel
theorem dX12_mean_27 : decode cX12_mean 27 = .ok (.iaload, 1) := by decide +kernel
theorem dX12_mean_28 : decode cX12_mean 28 = .ok (.iadd, 1) := by decide +kernel
theorem dX12_mean_29 : decode cX12_mean 29 = .ok (.istore_n 1, 1) := by decide +kernel
theorem dX12_mean_30 : decode cX12_mean 30 = .ok (.iinc 2 1, 3) := by decide +kernel
theorem dX12_mean_33 : decode cX12_mean 33 = .ok (.goto (-20), 3) := by decide +kernel
theorem dX12_mean_36 : decode cX12_mean 36 = .ok (.iload_n 1, 1) := by decide +kernel
theorem dX12_mean_37 : decode cX12_mean 37 = .ok (.aload_n 0, 1) := by decide +kernel
theorem dX12_mean_38 : decode cX12_mean 38 = .ok (.aload_n 0, 1) := by decide +kernel
theorem dX12_mean_39 : decode cX12_mean 39 = .ok (.getfield 52, 3) := by decide +kernel
theorem dX12_mean_42 : decode cX12_mean 42 = .ok (.aload_n 0, 1) := by decide +kernel
theorem dX12_mean_43 : decode cX12_mean 43 = .ok (.getfield 322, 3) := by decide +kernel
theorem dX12_mean_46 : decode cX12_mean 46 = .ok (.iconst 1, 1) := by decide +kernel
theorem dX12_mean_47 : decode cX12_mean 47 = .ok (.isub, 1) := by decide +kernel
theorem dX12_mean_48 : decode cX12_mean 48 = .ok (.iaload, 1) := by decide +kernel
theorem dX12_mean_49 : decode cX12_mean 49 = .ok (.invokevirtual 230, 3) := by decide +kernel
theorem dX12_mean_52 : decode cX12_mean 52 = .ok (.aload_n 0, 1) := by decide +kernel
theorem dX12_mean_53 : decode cX12_mean 53 = .ok (.aload_n 0, 1) := by decide +kernel
theorem dX12_mean_54 : decode cX12_mean 54 = .ok (.getfield 49, 3) := by decide +kernel
theorem dX12_mean_57 : decode cX12_mean 57 = .ok (.iconst 0, 1) := by decide +kernel
theorem dX12_mean_58 : decode cX12_mean 58 = .ok (.iaload, 1) := by decide +kernel
theorem dX12_mean_59 : decode cX12_mean 59 = .ok (.invokevirtual 230, 3) := by decide +kernel
theorem dX12_mean_62 : decode cX12_mean 62 = .ok (.isub, 1) := by decide +kernel
theorem dX12_mean_63 : decode cX12_mean 63 = .ok (.idiv, 1) := by decide +kernel
theorem dX12_mean_64 : decode cX12_mean 64 = .ok (.ireturn, 1) := by decide +kernel
theorem dX12_meanSpeed_0 : decode cX12_meanSpeed 0 = .ok (.aload_n 0, 1) := by decide +kernel
theorem dX12_meanSpeed_1 : decode cX12_meanSpeed 1 = .ok (.iload_n 1, 1) := by decide +kernel
theorem dX12_meanSpeed_2 : decode cX12_meanSpeed 2 = .ok (.invokevirtual 337, 3) := by decide +kernel
theorem dX12_meanSpeed_5 : decode cX12_meanSpeed 5 = .ok (.ifCond .eq 7, 3) := by decide +kernel
theorem dX12_meanSpeed_8 : decode cX12_meanSpeed 8 = .ok (.iconst 0, 1) := by decide +kernel
theorem dX12_meanSpeed_9 : decode cX12_meanSpeed 9 = .ok (.goto 7, 3) := by decide +kernel
theorem dX12_meanSpeed_12 : decode cX12_meanSpeed 12 = .ok (.aload_n 0, 1) := by decide +kernel
theorem dX12_meanSpeed_13 : decode cX12_meanSpeed 13 = .ok (.invokevirtual 343, 3) := by decide +kernel
theorem dX12_meanSpeed_16 : decode cX12_meanSpeed 16 = .ok (.ireturn, 1) := by decide +kernel
theorem dX12_meanSpeedWithScale_0 : decode cX12_meanSpeedWithScale 0 = .ok (.aload_n 0, 1) := by decide +kernel
theorem dX12_meanSpeedWithScale_1 : decode cX12_meanSpeedWithScale 1 = .ok (.iload_n 1, 1) := by decide +kernel
theorem dX12_meanSpeedWithScale_2 : decode cX12_meanSpeedWithScale 2 = .ok (.invokevirtual 312, 3) := by decide +kernel
theorem dX12_meanSpeedWithScale_5 : decode cX12_meanSpeedWithScale 5 = .ok (.ifCond .eq 5, 3) := by decide +kernel
theorem dX12_meanSpeedWithScale_8 : decode cX12_meanSpeedWithScale 8 = .ok (.iconst 0, 1) := by decide +kernel
theorem dX12_meanSpeedWithScale_9 : decode cX12_meanSpeedWithScale 9 = .ok (.ireturn, 1) := by decide +kernel
theorem dX12_meanSpeedWithScale_10 : decode cX12_meanSpeedWithScale 10 = .ok (.iload_n 2, 1) := by decide +kernel
theorem dX12_meanSpeedWithScale_11 : decode cX12_meanSpeedWithScale 11 = .ok (.iconst 1, 1) := by decide +kernel
theorem dX12_meanSpeedWithScale_12 : decode cX12_meanSpeedWithScale 12 = .ok (.sipush 1000, 3) := by decide +kernel
theorem dX12_meanSpeedWithScale_15 : decode cX12_meanSpeedWithScale 15 = .ok (.invokestatic 119, 3) := by decide +kernel
theorem dX12_meanSpeedWithScale_18 : decode cX12_meanSpeedWithScale 18 = .ok (.ifCond .ne 6, 3) := by decide +kernel
theorem dX12_meanSpeedWithScale_21 : decode cX12_meanSpeedWithScale 21 = .ok (.bipush (-2), 2) := by decide +kernel
theorem dX12_meanSpeedWithScale_23 : decode cX12_meanSpeedWithScale 23 = .ok (.ireturn, 1) := by decide +kernel
theorem dX12_meanSpeedWithScale_24 : decode cX12_meanSpeedWithScale 24 = .ok (.aload_n 0, 1) := by decide +kernel
theorem dX12_meanSpeedWithScale_25 : decode cX12_meanSpeedWithScale 25 = .ok (.iload_n 2, 1) := by decide +kernel
theorem dX12_meanSpeedWithScale_26 : decode cX12_meanSpeedWithScale 26 = .ok (.invokevirtual 334, 3) := by decide +kernel
theorem dX12_meanSpeedWithScale_29 : decode cX12_meanSpeedWithScale 29 = .ok (.aload_n 0, 1) := by decide +kernel
theorem dX12_meanSpeedWithScale_30 : decode cX12_meanSpeedWithScale 30 = .ok (.invokevirtual 343, 3) := by decide +kernel
theorem dX12_meanSpeedWithScale_33 : decode cX12_meanSpeedWithScale 33 = .ok (.ireturn, 1) := by decide +kernel
theorem dX12_fastestFeature_0 : decode cX12_fastestFeature 0 = .ok (.aload_n 0, 1) := by decide +kernel
theorem dX12_fastestFeature_1 : decode cX12_fastestFeature 1 = .ok (.iconst 0, 1) := by decide +kernel
theorem dX12_fastestFeature_2 : decode cX12_fastestFeature 2 = .ok (.putfield 83, 3) := by decide +kernel
theorem dX12_fastestFeature_5 : decode cX12_fastestFeature 5 = .ok (.iconst (-1), 1) := by decide +kernel
theorem dX12_fastestFeature_6 : decode cX12_fastestFeature 6 = .ok (.istore_n 1, 1) := by decide +kernel
theorem dX12_fastestFeature_7 : decode cX12_fastestFeature 7 = .ok (.iconst (-1), 1) := by decide +kernel
theorem dX12_fastestFeature_8 : decode cX12_fastestFeature 8 = .ok (.istore_n 2, 1) := by decide +kernel
theorem dX12_fastestFeature_9 : decode cX12_fastestFeature 9 = .ok (.iconst 0, 1) := by decide +kernel
theorem dX12_fastestFeature_10 : decode cX12_fastestFeature 10 = .ok (.istore_n 3, 1) := by decide +kernel
theorem dX12_fastestFeature_11 : decode cX12_fastestFeature 11 = .ok (.iload_n 3, 1) := by decide +kernel
theorem dX12_fastestFeature_12 : decode cX12_fastestFeature 12 = .ok (.aload_n 0, 1) := by decide +kernel
theorem dX12_fastestFeature_13 : decode cX12_fastestFeature 13 = .ok (.getfield 7, 3) := by decide +kernel
theorem dX12_fastestFeature_16 : decode cX12_fastestFeature 16 = .ok (.iconst 4, 1) := by decide +kernel
theorem dX12_fastestFeature_17 : decode cX12_fastestFeature 17 = .ok (.iaload, 1) := by decide +kernel
theorem dX12_fastestFeature_18 : decode cX12_fastestFeature 18 = .ok (.if_icmp .ge 53, 3) := by decide +kernel
theorem dX12_fastestFeature_21 : decode cX12_fastestFeature 21 = .ok (.aload_n 0, 1) := by decide +kernel
theorem dX12_fastestFeature_22 : decode cX12_fastestFeature 22 = .ok (.iload_n 3, 1) := by decide +kernel
theorem dX12_fastestFeature_23 : decode cX12_fastestFeature 23 = .ok (.aload_n 0, 1) := by decide +kernel
theorem dX12_fastestFeature_24 : decode cX12_fastestFeature 24 = .ok (.iconst 4, 1) := by decide +kernel
theorem dX12_fastestFeature_25 : decode cX12_fastestFeature 25 = .ok (.invokevirtual 216, 3) := by decide +kernel
theorem dX12_fastestFeature_28 : decode cX12_fastestFeature 28 = .ok (.invokevirtual 309, 3) := by decide +kernel
theorem dX12_fastestFeature_31 : decode cX12_fastestFeature 31 = .ok (.aload_n 0, 1) := by decide +kernel
theorem dX12_fastestFeature_32 : decode cX12_fastestFeature 32 = .ok (.aload_n 0, 1) := by decide +kernel
theorem dX12_fastestFeature_33 : decode cX12_fastestFeature 33 = .ok (.iconst 5, 1) := by decide +kernel
theorem dX12_fastestFeature_34 : decode cX12_fastestFeature 34 = .ok (.invokevirtual 216, 3) := by decide +kernel
theorem dX12_fastestFeature_37 : decode cX12_fastestFeature 37 = .ok (.invokevirtual 334, 3) := by decide +kernel
theorem dX12_fastestFeature_40 : decode cX12_fastestFeature 40 = .ok (.aload_n 0, 1) := by decide +kernel
theorem dX12_fastestFeature_41 : decode cX12_fastestFeature 41 = .ok (.getfield 322, 3) := by decide +kernel
theorem dX12_fastestFeature_44 : decode cX12_fastestFeature 44 = .ok (.ifCond .eq 21, 3) := by decide +kernel
theorem dX12_fastestFeature_47 : decode cX12_fastestFeature 47 = .ok (.aload_n 0, 1) := by decide +kernel
theorem dX12_fastestFeature_48 : decode cX12_fastestFeature 48 = .ok (.invokevirtual 343, 3) := by decide +kernel
theorem dX12_fastestFeature_51 : decode cX12_fastestFeature 51 = .ok (.iload_n 2, 1) := by decide +kernel
theorem dX12_fastestFeature_52 : decode cX12_fastestFeature 52 = .ok (.if_icmp .gt 6, 3) := by decide +kernel
theorem dX12_fastestFeature_55 : decode cX12_fastestFeature 55 = .ok (.goto 10, 3) := by decide +kernel
theorem dX12_fastestFeature_58 : decode cX12_fastestFeature 58 = .ok (.iload_n 3, 1) := by decide +kernel
theorem dX12_fastestFeature_59 : decode cX12_fastestFeature 59 = .ok (.istore_n 1, 1) := by decide +kernel
theorem dX12_fastestFeature_60 : decode cX12_fastestFeature 60 = .ok (.aload_n 0, 1) := by decide +kernel
theorem dX12_fastestFeature_61 : decode cX12_fastestFeature 61 = .ok (.invokevirtual 343, 3) := by decide +kernel
theorem dX12_fastestFeature_64 : decode cX12_fastestFeature 64 = .ok (.istore_n 2, 1) := by decide +kernel
theorem dX12_fastestFeature_65 : decode cX12_fastestFeature 65 = .ok (.iinc 3 1, 3) := by decide +kernel
theorem dX12_fastestFeature_68 : decode cX12_fastestFeature 68 = .ok (.goto (-57), 3) := by decide +kernel
theorem dX12_fastestFeature_71 : decode cX12_fastestFeature 71 = .ok (.iload_n 1, 1) := by decide +kernel
theorem dX12_fastestFeature_72 : decode cX12_fastestFeature 72 = .ok (.ireturn, 1) := by decide +kernel
theorem dX12_noSurges_0 : decode cX12_noSurges 0 = .ok (.aload_n 0, 1) := by decide +kernel
theorem dX12_noSurges_1 : decode cX12_noSurges 1 = .ok (.iload_n 1, 1) := by decide +kernel
theorem dX12_noSurges_2 : decode cX12_noSurges 2 = .ok (.invokevirtual 337, 3) := by decide +kernel
theorem dX12_noSurges_5 : decode cX12_noSurges 5 = .ok (.ifCond .eq 5, 3) := by decide +kernel
theorem dX12_noSurges_8 : decode cX12_noSurges 8 = .ok (.iconst 1, 1) := by decide +kernel
theorem dX12_noSurges_9 : decode cX12_noSurges 9 = .ok (.ireturn, 1) := by decide +kernel
theorem dX12_noSurges_10 : decode cX12_noSurges 10 = .ok (.aload_n 0, 1) := by decide +kernel
theorem dX12_noSurges_11 : decode cX12_noSurges 11 = .ok (.iconst 0, 1) := by decide +kernel
theorem dX12_noSurges_12 : decode cX12_noSurges 12 = .ok (.putfield 346, 3) := by decide +kernel
theorem dX12_noSurges_15 : decode cX12_noSurges 15 = .ok (.iconst 0, 1) := by decide +kernel
theorem dX12_noSurges_16 : decode cX12_noSurges 16 = .ok (.istore_n 2, 1) := by decide +kernel
theorem dX12_noSurges_17 : decode cX12_noSurges 17 = .ok (.iconst 0, 1) := by decide +kernel
theorem dX12_noSurges_18 : decode cX12_noSurges 18 = .ok (.istore_n 3, 1) := by decide +kernel
theorem dX12_noSurges_19 : decode cX12_noSurges 19 = .ok (.iload_n 3, 1) := by decide +kernel
theorem dX12_noSurges_20 : decode cX12_noSurges 20 = .ok (.aload_n 0, 1) := by decide +kernel
theorem dX12_noSurges_21 : decode cX12_noSurges 21 = .ok (.getfield 322, 3) := by decide +kernel
theorem dX12_noSurges_24 : decode cX12_noSurges 24 = .ok (.if_icmp .ge 89, 3) := by decide +kernel
theorem dX12_noSurges_27 : decode cX12_noSurges 27 = .ok (.aload_n 0, 1) := by decide +kernel
theorem dX12_noSurges_28 : decode cX12_noSurges 28 = .ok (.iload_n 3, 1) := by decide +kernel
theorem dX12_noSurges_29 : decode cX12_noSurges 29 = .ok (.invokevirtual 340, 3) := by decide +kernel
theorem dX12_noSurges_32 : decode cX12_noSurges 32 = .ok (.aload_n 0, 1) := by decide +kernel
theorem dX12_noSurges_33 : decode cX12_noSurges 33 = .ok (.bipush 7, 2) := by decide +kernel
theorem dX12_noSurges_35 : decode cX12_noSurges 35 = .ok (.invokevirtual 216, 3) := by decide +kernel
theorem dX12_noSurges_38 : decode cX12_noSurges 38 = .ok (.if_icmp .lt 7, 3) := by decide +kernel
theorem dX12_noSurges_41 : decode cX12_noSurges 41 = .ok (.iconst 1, 1) := by decide +kernel
theorem dX12_noSurges_42 : decode cX12_noSurges 42 = .ok (.goto 4, 3) := by decide +kernel
theorem dX12_noSurges_45 : decode cX12_noSurges 45 = .ok (.iconst 0, 1) := by decide +kernel
theorem dX12_noSurges_46 : decode cX12_noSurges 46 = .ok (.istore 4, 2) := by decide +kernel
theorem dX12_noSurges_48 : decode cX12_noSurges 48 = .ok (.iload 4, 2) := by decide +kernel
theorem dX12_noSurges_50 : decode cX12_noSurges 50 = .ok (.ifCond .eq 32, 3) := by decide +kernel
theorem dX12_noSurges_53 : decode cX12_noSurges 53 = .ok (.iload_n 2, 1) := by decide +kernel
theorem dX12_noSurges_54 : decode cX12_noSurges 54 = .ok (.ifCond .ne 28, 3) := by decide +kernel
theorem dX12_noSurges_57 : decode cX12_noSurges 57 = .ok (.aload_n 0, 1) := by decide +kernel
theorem dX12_noSurges_58 : decode cX12_noSurges 58 = .ok (.getfield 58, 3) := by decide +kernel
theorem dX12_noSurges_61 : decode cX12_noSurges 61 = .ok (.aload_n 0, 1) := by decide +kernel
theorem dX12_noSurges_62 : decode cX12_noSurges 62 = .ok (.getfield 346, 3) := by decide +kernel
theorem dX12_noSurges_65 : decode cX12_noSurges 65 = .ok (.aload_n 0, 1) := by decide +kernel
theorem dX12_noSurges_66 : decode cX12_noSurges 66 = .ok (.getfield 49, 3) := by decide +kernel
theorem dX12_noSurges_69 : decode cX12_noSurges 69 = .ok (.iload_n 3, 1) := by decide +kernel
theorem dX12_noSurges_70 : decode cX12_noSurges 70 = .ok (.iaload, 1) := by decide +kernel
theorem dX12_noSurges_71 : decode cX12_noSurges 71 = .ok (.iastore, 1) := by decide +kernel
theorem dX12_noSurges_72 : decode cX12_noSurges 72 = .ok (.aload_n 0, 1) := by decide +kernel
theorem dX12_noSurges_73 : decode cX12_noSurges 73 = .ok (.dup, 1) := by decide +kernel
theorem dX12_noSurges_74 : decode cX12_noSurges 74 = .ok (.getfield 346, 3) := by decide +kernel
theorem dX12_noSurges_77 : decode cX12_noSurges 77 = .ok (.iconst 1, 1) := by decide +kernel
theorem dX12_noSurges_78 : decode cX12_noSurges 78 = .ok (.iadd, 1) := by decide +kernel
theorem dX12_noSurges_79 : decode cX12_noSurges 79 = .ok (.putfield 346, 3) := by decide +kernel
theorem dX12_noSurges_82 : decode cX12_noSurges 82 = .ok (.iload 4, 2) := by decide +kernel
theorem dX12_noSurges_84 : decode cX12_noSurges 84 = .ok (.ifCond .eq 20, 3) := by decide +kernel
theorem dX12_noSurges_87 : decode cX12_noSurges 87 = .ok (.aload_n 0, 1) := by decide +kernel
theorem dX12_noSurges_88 : decode cX12_noSurges 88 = .ok (.getfield 61, 3) := by decide +kernel
theorem dX12_noSurges_91 : decode cX12_noSurges 91 = .ok (.aload_n 0, 1) := by decide +kernel
theorem dX12_noSurges_92 : decode cX12_noSurges 92 = .ok (.getfield 346, 3) := by decide +kernel
theorem dX12_noSurges_95 : decode cX12_noSurges 95 = .ok (.iconst 1, 1) := by decide +kernel
theorem dX12_noSurges_96 : decode cX12_noSurges 96 = .ok (.isub, 1) := by decide +kernel
theorem dX12_noSurges_97 : decode cX12_noSurges 97 = .ok (.aload_n 0, 1) := by decide +kernel
theorem dX12_noSurges_98 : decode cX12_noSurges 98 = .ok (.getfield 52, 3) := by decide +kernel
theorem dX12_noSurges_101 : decode cX12_noSurges 101 = .ok (.iload_n 3, 1) := by decide +kernel
theorem dX12_noSurges_102 : decode cX12_noSurges 102 = .ok (.iaload, 1) := by decide +kernel
theorem dX12_noSurges_103 : decode cX12_noSurges 103 = .ok (.iastore, 1) := by decide +kernel
theorem dX12_noSurges_104 : decode cX12_noSurges 104 = .ok (.iload 4, 2) := by decide +kernel
theorem dX12_noSurges_106 : decode cX12_noSurges 106 = .ok (.istore_n 2, 1) := by decide +kernel
theorem dX12_noSurges_107 : decode cX12_noSurges 107 = .ok (.iinc 3 1, 3) := by decide +kernel
theorem dX12_noSurges_110 : decode cX12_noSurges 110 = .ok (.goto (-91), 3) := by decide +kernel
theorem dX12_noSurges_113 : decode cX12_noSurges 113 = .ok (.iconst 0, 1) := by decide +kernel
theorem dX12_noSurges_114 : decode cX12_noSurges 114 = .ok (.ireturn, 1) := by decide +kernel
theorem dX12_surgeCount_0 : decode cX12_surgeCount 0 = .ok (.aload_n 0, 1) := by decide +kernel
theorem dX12_surgeCount_1 : decode cX12_surgeCount 1 = .ok (.iload_n 1, 1) := by decide +kernel
theorem dX12_surgeCount_2 : decode cX12_surgeCount 2 = .ok (.invokevirtual 349, 3) := by decide +kernel
theorem dX12_surgeCount_5 : decode cX12_surgeCount 5 = .ok (.ifCond .eq 7, 3) := by decide +kernel
theorem dX12_surgeCount_8 : decode cX12_surgeCount 8 = .ok (.iconst 0, 1) := by decide +kernel
theorem dX12_surgeCount_9 : decode cX12_surgeCount 9 = .ok (.goto 7, 3) := by decide +kernel
theorem dX12_surgeCount_12 : decode cX12_surgeCount 12 = .ok (.aload_n 0, 1) := by decide +kernel
theorem dX12_surgeCount_13 : decode cX12_surgeCount 13 = .ok (.getfield 346, 3) := by decide +kernel
theorem dX12_surgeCount_16 : decode cX12_surgeCount 16 = .ok (.ireturn, 1) := by decide +kernel
theorem dX12_surgeStart_0 : decode cX12_surgeStart 0 = .ok (.aload_n 0, 1) := by decide +kernel
theorem dX12_surgeStart_1 : decode cX12_surgeStart 1 = .ok (.iload_n 1, 1) := by decide +kernel
theorem dX12_surgeStart_2 : decode cX12_surgeStart 2 = .ok (.invokevirtual 349, 3) := by decide +kernel
theorem dX12_surgeStart_5 : decode cX12_surgeStart 5 = .ok (.ifCond .eq 5, 3) := by decide +kernel
theorem dX12_surgeStart_8 : decode cX12_surgeStart 8 = .ok (.iconst 0, 1) := by decide +kernel
theorem dX12_surgeStart_9 : decode cX12_surgeStart 9 = .ok (.ireturn, 1) := by decide +kernel
theorem dX12_surgeStart_10 : decode cX12_surgeStart 10 = .ok (.iload_n 2, 1) := by decide +kernel
theorem dX12_surgeStart_11 : decode cX12_surgeStart 11 = .ok (.iconst 0, 1) := by decide +kernel
theorem dX12_surgeStart_12 : decode cX12_surgeStart 12 = .ok (.aload_n 0, 1) := by decide +kernel
theorem dX12_surgeStart_13 : decode cX12_surgeStart 13 = .ok (.getfield 346, 3) := by decide +kernel
theorem dX12_surgeStart_16 : decode cX12_surgeStart 16 = .ok (.iconst 1, 1) := by decide +kernel
theorem dX12_surgeStart_17 : decode cX12_surgeStart 17 = .ok (.isub, 1) := by decide +kernel
theorem dX12_surgeStart_18 : decode cX12_surgeStart 18 = .ok (.invokestatic 119, 3) := by decide +kernel
theorem dX12_surgeStart_21 : decode cX12_surgeStart 21 = .ok (.ifCond .eq 16, 3) := by decide +kernel
theorem dX12_surgeStart_24 : decode cX12_surgeStart 24 = .ok (.aload_n 0, 1) := by decide +kernel
theorem dX12_surgeStart_25 : decode cX12_surgeStart 25 = .ok (.aload_n 0, 1) := by decide +kernel
theorem dX12_surgeStart_26 : decode cX12_surgeStart 26 = .ok (.getfield 58, 3) := by decide +kernel
theorem dX12_surgeStart_29 : decode cX12_surgeStart 29 = .ok (.iload_n 2, 1) := by decide +kernel
theorem dX12_surgeStart_30 : decode cX12_surgeStart 30 = .ok (.iaload, 1) := by decide +kernel
theorem dX12_surgeStart_31 : decode cX12_surgeStart 31 = .ok (.invokevirtual 230, 3) := by decide +kernel
theorem dX12_surgeStart_34 : decode cX12_surgeStart 34 = .ok (.goto 4, 3) := by decide +kernel
theorem dX12_surgeStart_37 : decode cX12_surgeStart 37 = .ok (.iconst (-1), 1) := by decide +kernel
theorem dX12_surgeStart_38 : decode cX12_surgeStart 38 = .ok (.ireturn, 1) := by decide +kernel
theorem dX12_surgeDays_0 : decode cX12_surgeDays 0 = .ok (.aload_n 0, 1) := by decide +kernel
theorem dX12_surgeDays_1 : decode cX12_surgeDays 1 = .ok (.iload_n 1, 1) := by decide +kernel
theorem dX12_surgeDays_2 : decode cX12_surgeDays 2 = .ok (.invokevirtual 349, 3) := by decide +kernel
theorem dX12_surgeDays_5 : decode cX12_surgeDays 5 = .ok (.ifCond .eq 5, 3) := by decide +kernel
theorem dX12_surgeDays_8 : decode cX12_surgeDays 8 = .ok (.iconst 0, 1) := by decide +kernel
theorem dX12_surgeDays_9 : decode cX12_surgeDays 9 = .ok (.ireturn, 1) := by decide +kernel
theorem dX12_surgeDays_10 : decode cX12_surgeDays 10 = .ok (.iload_n 2, 1) := by decide +kernel
theorem dX12_surgeDays_11 : decode cX12_surgeDays 11 = .ok (.iconst 0, 1) := by decide +kernel
theorem dX12_surgeDays_12 : decode cX12_surgeDays 12 = .ok (.aload_n 0, 1) := by decide +kernel
theorem dX12_surgeDays_13 : decode cX12_surgeDays 13 = .ok (.getfield 346, 3) := by decide +kernel
theorem dX12_surgeDays_16 : decode cX12_surgeDays 16 = .ok (.iconst 1, 1) := by decide +kernel
theorem dX12_surgeDays_17 : decode cX12_surgeDays 17 = .ok (.isub, 1) := by decide +kernel
theorem dX12_surgeDays_18 : decode cX12_surgeDays 18 = .ok (.invokestatic 119, 3) := by decide +kernel
theorem dX12_surgeDays_21 : decode cX12_surgeDays 21 = .ok (.ifCond .eq 27, 3) := by decide +kernel
theorem dX12_surgeDays_24 : decode cX12_surgeDays 24 = .ok (.aload_n 0, 1) := by decide +kernel
theorem dX12_surgeDays_25 : decode cX12_surgeDays 25 = .ok (.aload_n 0, 1) := by decide +kernel
theorem dX12_surgeDays_26 : decode cX12_surgeDays 26 = .ok (.getfield 61, 3) := by decide +kernel
theorem dX12_surgeDays_29 : decode cX12_surgeDays 29 = .ok (.iload_n 2, 1) := by decide +kernel
theorem dX12_surgeDays_30 : decode cX12_surgeDays 30 = .ok (.iaload, 1) := by decide +kernel
theorem dX12_surgeDays_31 : decode cX12_surgeDays 31 = .ok (.invokevirtual 230, 3) := by decide +kernel
theorem dX12_surgeDays_34 : decode cX12_surgeDays 34 = .ok (.aload_n 0, 1) := by decide +kernel
theorem dX12_surgeDays_35 : decode cX12_surgeDays 35 = .ok (.aload_n 0, 1) := by decide +kernel
theorem dX12_surgeDays_36 : decode cX12_surgeDays 36 = .ok (.getfield 58, 3) := by decide +kernel
theorem dX12_surgeDays_39 : decode cX12_surgeDays 39 = .ok (.iload_n 2, 1) := by decide +kernel
theorem dX12_surgeDays_40 : decode cX12_surgeDays 40 = .ok (.iaload, 1) := by decide +kernel
theorem dX12_surgeDays_41 : decode cX12_surgeDays 41 = .ok (.invokevirtual 230, 3) := by decide +kernel
theorem dX12_surgeDays_44 : decode cX12_surgeDays 44 = .ok (.isub, 1) := by decide +kernel
theorem dX12_surgeDays_45 : decode cX12_surgeDays 45 = .ok (.goto 4, 3) := by decide +kernel
theorem dX12_surgeDays_48 : decode cX12_surgeDays 48 = .ok (.iconst (-1), 1) := by decide +kernel
theorem dX12_surgeDays_49 : decode cX12_surgeDays 49 = .ok (.ireturn, 1) := by decide +kernel
theorem dX12_floorOf_0 : decode cX12_floorOf 0 = .ok (.iload_n 0, 1) := by decide +kernel
theorem dX12_floorOf_1 : decode cX12_floorOf 1 = .ok (.iload_n 1, 1) := by decide +kernel
theorem dX12_floorOf_2 : decode cX12_floorOf 2 = .ok (.idiv, 1) := by decide +kernel
theorem dX12_floorOf_3 : decode cX12_floorOf 3 = .ok (.istore_n 2, 1) := by decide +kernel
theorem dX12_floorOf_4 : decode cX12_floorOf 4 = .ok (.iload_n 2, 1) := by decide +kernel
theorem dX12_floorOf_5 : decode cX12_floorOf 5 = .ok (.iload_n 1, 1) := by decide +kernel
theorem dX12_floorOf_6 : decode cX12_floorOf 6 = .ok (.imul, 1) := by decide +kernel
theorem dX12_floorOf_7 : decode cX12_floorOf 7 = .ok (.iload_n 0, 1) := by decide +kernel
theorem dX12_floorOf_8 : decode cX12_floorOf 8 = .ok (.if_icmp .le 9, 3) := by decide +kernel
theorem dX12_floorOf_11 : decode cX12_floorOf 11 = .ok (.iload_n 2, 1) := by decide +kernel
theorem dX12_floorOf_12 : decode cX12_floorOf 12 = .ok (.iconst 1, 1) := by decide +kernel
theorem dX12_floorOf_13 : decode cX12_floorOf 13 = .ok (.isub, 1) := by decide +kernel
theorem dX12_floorOf_14 : decode cX12_floorOf 14 = .ok (.goto 4, 3) := by decide +kernel
theorem dX12_floorOf_17 : decode cX12_floorOf 17 = .ok (.iload_n 2, 1) := by decide +kernel
theorem dX12_floorOf_18 : decode cX12_floorOf 18 = .ok (.ireturn, 1) := by decide +kernel
theorem dX12_positionOn_0 : decode cX12_positionOn 0 = .ok (.iconst (-1), 1) := by decide +kernel
theorem dX12_positionOn_1 : decode cX12_positionOn 1 = .ok (.istore_n 3, 1) := by decide +kernel
theorem dX12_positionOn_2 : decode cX12_positionOn 2 = .ok (.iconst 0, 1) := by decide +kernel
theorem dX12_positionOn_3 : decode cX12_positionOn 3 = .ok (.istore 4, 2) := by decide +kernel
theorem dX12_positionOn_5 : decode cX12_positionOn 5 = .ok (.iload 4, 2) := by decide +kernel
theorem dX12_positionOn_7 : decode cX12_positionOn 7 = .ok (.aload_n 0, 1) := by decide +kernel
theorem dX12_positionOn_8 : decode cX12_positionOn 8 = .ok (.getfield 7, 3) := by decide +kernel
theorem dX12_positionOn_11 : decode cX12_positionOn 11 = .ok (.iconst 2, 1) := by decide +kernel
theorem dX12_positionOn_12 : decode cX12_positionOn 12 = .ok (.iaload, 1) := by decide +kernel
theorem dX12_positionOn_13 : decode cX12_positionOn 13 = .ok (.if_icmp .ge 137, 3) := by decide +kernel
theorem dX12_positionOn_16 : decode cX12_positionOn 16 = .ok (.aload_n 0, 1) := by decide +kernel
theorem dX12_positionOn_17 : decode cX12_positionOn 17 = .ok (.getfield 40, 3) := by decide +kernel
theorem dX12_positionOn_20 : decode cX12_positionOn 20 = .ok (.iload 4, 2) := by decide +kernel
theorem dX12_positionOn_22 : decode cX12_positionOn 22 = .ok (.baload, 1) := by decide +kernel
theorem dX12_positionOn_23 : decode cX12_positionOn 23 = .ok (.ifCond .ne 6, 3) := by decide +kernel
theorem dX12_positionOn_26 : decode cX12_positionOn 26 = .ok (.goto 118, 3) := by decide +kernel
theorem dX12_positionOn_29 : decode cX12_positionOn 29 = .ok (.iload_n 2, 1) := by decide +kernel
theorem dX12_positionOn_30 : decode cX12_positionOn 30 = .ok (.ifCond .eq 12, 3) := by decide +kernel
theorem dX12_positionOn_33 : decode cX12_positionOn 33 = .ok (.aload_n 0, 1) := by decide +kernel
theorem dX12_positionOn_34 : decode cX12_positionOn 34 = .ok (.iload 4, 2) := by decide +kernel
theorem dX12_positionOn_36 : decode cX12_positionOn 36 = .ok (.invokevirtual 325, 3) := by decide +kernel
theorem dX12_positionOn_39 : decode cX12_positionOn 39 = .ok (.goto 9, 3) := by decide +kernel
theorem dX12_positionOn_42 : decode cX12_positionOn 42 = .ok (.aload_n 0, 1) := by decide +kernel
theorem dX12_positionOn_43 : decode cX12_positionOn 43 = .ok (.iload 4, 2) := by decide +kernel
theorem dX12_positionOn_45 : decode cX12_positionOn 45 = .ok (.invokevirtual 328, 3) := by decide +kernel
theorem dX12_positionOn_48 : decode cX12_positionOn 48 = .ok (.istore 5, 2) := by decide +kernel
theorem dX12_positionOn_50 : decode cX12_positionOn 50 = .ok (.aload_n 0, 1) := by decide +kernel
theorem dX12_positionOn_51 : decode cX12_positionOn 51 = .ok (.iload 4, 2) := by decide +kernel
theorem dX12_positionOn_53 : decode cX12_positionOn 53 = .ok (.invokevirtual 230, 3) := by decide +kernel
theorem dX12_positionOn_56 : decode cX12_positionOn 56 = .ok (.iload_n 1, 1) := by decide +kernel
theorem dX12_positionOn_57 : decode cX12_positionOn 57 = .ok (.if_icmp .ne 9, 3) := by decide +kernel
theorem dX12_positionOn_60 : decode cX12_positionOn 60 = .ok (.bipush 100, 2) := by decide +kernel
theorem dX12_positionOn_62 : decode cX12_positionOn 62 = .ok (.iload 5, 2) := by decide +kernel
theorem dX12_positionOn_64 : decode cX12_positionOn 64 = .ok (.imul, 1) := by decide +kernel
theorem dX12_positionOn_65 : decode cX12_positionOn 65 = .ok (.ireturn, 1) := by decide +kernel
theorem dX12_positionOn_66 : decode cX12_positionOn 66 = .ok (.aload_n 0, 1) := by decide +kernel
theorem dX12_positionOn_67 : decode cX12_positionOn 67 = .ok (.iload 4, 2) := by decide +kernel
theorem dX12_positionOn_69 : decode cX12_positionOn 69 = .ok (.invokevirtual 230, 3) := by decide +kernel
theorem dX12_positionOn_72 : decode cX12_positionOn 72 = .ok (.iload_n 1, 1) := by decide +kernel
theorem dX12_positionOn_73 : decode cX12_positionOn 73 = .ok (.if_icmp .le 68, 3) := by decide +kernel
theorem dX12_positionOn_76 : decode cX12_positionOn 76 = .ok (.iload_n 3, 1) := by decide +kernel
theorem dX12_positionOn_77 : decode cX12_positionOn 77 = .ok (.ifCond .ge 7, 3) := by decide +kernel
theorem dX12_positionOn_80 : decode cX12_positionOn 80 = .ok (.ldc_w 352, 3) := by decide +kernel
theorem dX12_positionOn_83 : decode cX12_positionOn 83 = .ok (.ireturn, 1) := by decide +kernel
theorem dX12_positionOn_84 : decode cX12_positionOn 84 = .ok (.iload_n 2, 1) := by decide +kernel
theorem dX12_positionOn_85 : decode cX12_positionOn 85 = .ok (.ifCond .eq 11, 3) := by decide +kernel
theorem dX12_positionOn_88 : decode cX12_positionOn 88 = .ok (.aload_n 0, 1) := by decide +kernel
theorem dX12_positionOn_89 : decode cX12_positionOn 89 = .ok (.iload_n 3, 1) := by decide +kernel
theorem dX12_positionOn_90 : decode cX12_positionOn 90 = .ok (.invokevirtual 325, 3) := by decide +kernel
theorem dX12_positionOn_93 : decode cX12_positionOn 93 = .ok (.goto 8, 3) := by decide +kernel
theorem dX12_positionOn_96 : decode cX12_positionOn 96 = .ok (.aload_n 0, 1) := by decide +kernel
theorem dX12_positionOn_97 : decode cX12_positionOn 97 = .ok (.iload_n 3, 1) := by decide +kernel
theorem dX12_positionOn_98 : decode cX12_positionOn 98 = .ok (.invokevirtual 328, 3) := by decide +kernel
theorem dX12_positionOn_101 : decode cX12_positionOn 101 = .ok (.istore 6, 2) := by decide +kernel
theorem dX12_positionOn_103 : decode cX12_positionOn 103 = .ok (.bipush 100, 2) := by decide +kernel
theorem dX12_positionOn_105 : decode cX12_positionOn 105 = .ok (.iload 6, 2) := by decide +kernel
theorem dX12_positionOn_107 : decode cX12_positionOn 107 = .ok (.imul, 1) := by decide +kernel
theorem dX12_positionOn_108 : decode cX12_positionOn 108 = .ok (.bipush 100, 2) := by decide +kernel
theorem dX12_positionOn_110 : decode cX12_positionOn 110 = .ok (.iload 5, 2) := by decide +kernel
theorem dX12_positionOn_112 : decode cX12_positionOn 112 = .ok (.iload 6, 2) := by decide +kernel
theorem dX12_positionOn_114 : decode cX12_positionOn 114 = .ok (.isub, 1) := by decide +kernel
theorem dX12_positionOn_115 : decode cX12_positionOn 115 = .ok (.imul, 1) := by decide +kernel
theorem dX12_positionOn_116 : decode cX12_positionOn 116 = .ok (.iload_n 1, 1) := by decide +kernel
theorem dX12_positionOn_117 : decode cX12_positionOn 117 = .ok (.aload_n 0, 1) := by decide +kernel
theorem dX12_positionOn_118 : decode cX12_positionOn 118 = .ok (.iload_n 3, 1) := by decide +kernel
theorem dX12_positionOn_119 : decode cX12_positionOn 119 = .ok (.invokevirtual 230, 3) := by decide +kernel
theorem dX12_positionOn_122 : decode cX12_positionOn 122 = .ok (.isub, 1) := by decide +kernel
theorem dX12_positionOn_123 : decode cX12_positionOn 123 = .ok (.imul, 1) := by decide +kernel
theorem dX12_positionOn_124 : decode cX12_positionOn 124 = .ok (.aload_n 0, 1) := by decide +kernel
theorem dX12_positionOn_125 : decode cX12_positionOn 125 = .ok (.iload 4, 2) := by decide +kernel
theorem dX12_positionOn_127 : decode cX12_positionOn 127 = .ok (.invokevirtual 230, 3) := by decide +kernel
theorem dX12_positionOn_130 : decode cX12_positionOn 130 = .ok (.aload_n 0, 1) := by decide +kernel
theorem dX12_positionOn_131 : decode cX12_positionOn 131 = .ok (.iload_n 3, 1) := by decide +kernel
theorem dX12_positionOn_132 : decode cX12_positionOn 132 = .ok (.invokevirtual 230, 3) := by decide +kernel
theorem dX12_positionOn_135 : decode cX12_positionOn 135 = .ok (.isub, 1) := by decide +kernel
theorem dX12_positionOn_136 : decode cX12_positionOn 136 = .ok (.invokestatic 353, 3) := by decide +kernel
theorem dX12_positionOn_139 : decode cX12_positionOn 139 = .ok (.iadd, 1) := by decide +kernel
theorem dX12_positionOn_140 : decode cX12_positionOn 140 = .ok (.ireturn, 1) := by decide +kernel
theorem dX12_positionOn_141 : decode cX12_positionOn 141 = .ok (.iload 4, 2) := by decide +kernel
theorem dX12_positionOn_143 : decode cX12_positionOn 143 = .ok (.istore_n 3, 1) := by decide +kernel
theorem dX12_positionOn_144 : decode cX12_positionOn 144 = .ok (.iinc 4 1, 3) := by decide +kernel
theorem dX12_positionOn_147 : decode cX12_positionOn 147 = .ok (.goto (-142), 3) := by decide +kernel
theorem dX12_positionOn_150 : decode cX12_positionOn 150 = .ok (.ldc_w 352, 3) := by decide +kernel
theorem dX12_positionOn_153 : decode cX12_positionOn 153 = .ok (.ireturn, 1) := by decide +kernel
theorem dX12_positionX_0 : decode cX12_positionX 0 = .ok (.aload_n 0, 1) := by decide +kernel
theorem dX12_positionX_1 : decode cX12_positionX 1 = .ok (.iload_n 1, 1) := by decide +kernel
theorem dX12_positionX_2 : decode cX12_positionX 2 = .ok (.invokevirtual 312, 3) := by decide +kernel
theorem dX12_positionX_5 : decode cX12_positionX 5 = .ok (.ifCond .eq 7, 3) := by decide +kernel
theorem dX12_positionX_8 : decode cX12_positionX 8 = .ok (.iconst 0, 1) := by decide +kernel
theorem dX12_positionX_9 : decode cX12_positionX 9 = .ok (.goto 9, 3) := by decide +kernel
theorem dX12_positionX_12 : decode cX12_positionX 12 = .ok (.aload_n 0, 1) := by decide +kernel
theorem dX12_positionX_13 : decode cX12_positionX 13 = .ok (.iload_n 2, 1) := by decide +kernel
theorem dX12_positionX_14 : decode cX12_positionX 14 = .ok (.iconst 1, 1) := by decide +kernel
theorem dX12_positionX_15 : decode cX12_positionX 15 = .ok (.invokevirtual 356, 3) := by decide +kernel
theorem dX12_positionX_18 : decode cX12_positionX 18 = .ok (.ireturn, 1) := by decide +kernel
theorem dX12_positionY_0 : decode cX12_positionY 0 = .ok (.aload_n 0, 1) := by decide +kernel
theorem dX12_positionY_1 : decode cX12_positionY 1 = .ok (.iload_n 1, 1) := by decide +kernel
theorem dX12_positionY_2 : decode cX12_positionY 2 = .ok (.invokevirtual 312, 3) := by decide +kernel
theorem dX12_positionY_5 : decode cX12_positionY 5 = .ok (.ifCond .eq 7, 3) := by decide +kernel
theorem dX12_positionY_8 : decode cX12_positionY 8 = .ok (.iconst 0, 1) := by decide +kernel
theorem dX12_positionY_9 : decode cX12_positionY 9 = .ok (.goto 9, 3) := by decide +kernel
theorem dX12_positionY_12 : decode cX12_positionY 12 = .ok (.aload_n 0, 1) := by decide +kernel
theorem dX12_positionY_13 : decode cX12_positionY 13 = .ok (.iload_n 2, 1) := by decide +kernel
theorem dX12_positionY_14 : decode cX12_positionY 14 = .ok (.iconst 0, 1) := by decide +kernel
theorem dX12_positionY_15 : decode cX12_positionY 15 = .ok (.invokevirtual 356, 3) := by decide +kernel
theorem dX12_positionY_18 : decode cX12_positionY 18 = .ok (.ireturn, 1) := by decide +kernel
theorem dX12_findGaps_0 : decode cX12_findGaps 0 = .ok (.aload_n 0, 1) := by decide +kernel
theorem dX12_findGaps_1 : decode cX12_findGaps 1 = .ok (.iconst 0, 1) := by decide +kernel
theorem dX12_findGaps_2 : decode cX12_findGaps 2 = .ok (.putfield 83, 3) := by decide +kernel
theorem dX12_findGaps_5 : decode cX12_findGaps 5 = .ok (.aload_n 0, 1) := by decide +kernel
theorem dX12_findGaps_6 : decode cX12_findGaps 6 = .ok (.iconst 0, 1) := by decide +kernel
theorem dX12_findGaps_7 : decode cX12_findGaps 7 = .ok (.putfield 360, 3) := by decide +kernel
theorem dX12_findGaps_10 : decode cX12_findGaps 10 = .ok (.iconst (-1), 1) := by decide +kernel
theorem dX12_findGaps_11 : decode cX12_findGaps 11 = .ok (.istore_n 1, 1) := by decide +kernel
theorem dX12_findGaps_12 : decode cX12_findGaps 12 = .ok (.iconst 0, 1) := by decide +kernel
theorem dX12_findGaps_13 : decode cX12_findGaps 13 = .ok (.istore_n 2, 1) := by decide +kernel
theorem dX12_findGaps_14 : decode cX12_findGaps 14 = .ok (.iload_n 2, 1) := by decide +kernel
theorem dX12_findGaps_15 : decode cX12_findGaps 15 = .ok (.aload_n 0, 1) := by decide +kernel
theorem dX12_findGaps_16 : decode cX12_findGaps 16 = .ok (.getfield 7, 3) := by decide +kernel
theorem dX12_findGaps_19 : decode cX12_findGaps 19 = .ok (.iconst 2, 1) := by decide +kernel
theorem dX12_findGaps_20 : decode cX12_findGaps 20 = .ok (.iaload, 1) := by decide +kernel
theorem dX12_findGaps_21 : decode cX12_findGaps 21 = .ok (.if_icmp .ge 90, 3) := by decide +kernel
theorem dX12_findGaps_24 : decode cX12_findGaps 24 = .ok (.aload_n 0, 1) := by decide +kernel
theorem dX12_findGaps_25 : decode cX12_findGaps 25 = .ok (.iload_n 2, 1) := by decide +kernel
theorem dX12_findGaps_26 : decode cX12_findGaps 26 = .ok (.invokevirtual 247, 3) := by decide +kernel
theorem dX12_findGaps_29 : decode cX12_findGaps 29 = .ok (.ifCond .ne 6, 3) := by decide +kernel
theorem dX12_findGaps_32 : decode cX12_findGaps 32 = .ok (.goto 73, 3) := by decide +kernel
theorem dX12_findGaps_35 : decode cX12_findGaps 35 = .ok (.iload_n 1, 1) := by decide +kernel
theorem dX12_findGaps_36 : decode cX12_findGaps 36 = .ok (.ifCond .lt 67, 3) := by decide +kernel
theorem dX12_findGaps_39 : decode cX12_findGaps 39 = .ok (.aload_n 0, 1) := by decide +kernel
theorem dX12_findGaps_40 : decode cX12_findGaps 40 = .ok (.iload_n 2, 1) := by decide +kernel
theorem dX12_findGaps_41 : decode cX12_findGaps 41 = .ok (.invokevirtual 230, 3) := by decide +kernel
theorem dX12_findGaps_44 : decode cX12_findGaps 44 = .ok (.aload_n 0, 1) := by decide +kernel
theorem dX12_findGaps_45 : decode cX12_findGaps 45 = .ok (.iload_n 1, 1) := by decide +kernel
theorem dX12_findGaps_46 : decode cX12_findGaps 46 = .ok (.invokevirtual 230, 3) := by decide +kernel
theorem dX12_findGaps_49 : decode cX12_findGaps 49 = .ok (.isub, 1) := by decide +kernel
theorem dX12_findGaps_50 : decode cX12_findGaps 50 = .ok (.aload_n 0, 1) := by decide +kernel
theorem dX12_findGaps_51 : decode cX12_findGaps 51 = .ok (.bipush 6, 2) := by decide +kernel
theorem dX12_findGaps_53 : decode cX12_findGaps 53 = .ok (.invokevirtual 216, 3) := by decide +kernel
theorem dX12_findGaps_56 : decode cX12_findGaps 56 = .ok (.if_icmp .le 47, 3) := by decide +kernel
theorem dX12_findGaps_59 : decode cX12_findGaps 59 = .ok (.aload_n 0, 1) := by decide +kernel
theorem dX12_findGaps_60 : decode cX12_findGaps 60 = .ok (.getfield 64, 3) := by decide +kernel
theorem dX12_findGaps_63 : decode cX12_findGaps 63 = .ok (.aload_n 0, 1) := by decide +kernel
theorem dX12_findGaps_64 : decode cX12_findGaps 64 = .ok (.getfield 360, 3) := by decide +kernel
theorem dX12_findGaps_67 : decode cX12_findGaps 67 = .ok (.aload_n 0, 1) := by decide +kernel
theorem dX12_findGaps_68 : decode cX12_findGaps 68 = .ok (.iload_n 1, 1) := by decide +kernel
theorem dX12_findGaps_69 : decode cX12_findGaps 69 = .ok (.invokevirtual 230, 3) := by decide +kernel
theorem dX12_findGaps_72 : decode cX12_findGaps 72 = .ok (.iastore, 1) := by decide +kernel
theorem dX12_findGaps_73 : decode cX12_findGaps 73 = .ok (.aload_n 0, 1) := by decide +kernel
theorem dX12_findGaps_74 : decode cX12_findGaps 74 = .ok (.getfield 67, 3) := by decide +kernel
theorem dX12_findGaps_77 : decode cX12_findGaps 77 = .ok (.aload_n 0, 1) := by decide +kernel
theorem dX12_findGaps_78 : decode cX12_findGaps 78 = .ok (.getfield 360, 3) := by decide +kernel
theorem dX12_findGaps_81 : decode cX12_findGaps 81 = .ok (.aload_n 0, 1) := by decide +kernel
theorem dX12_findGaps_82 : decode cX12_findGaps 82 = .ok (.iload_n 2, 1) := by decide +kernel
theorem dX12_findGaps_83 : decode cX12_findGaps 83 = .ok (.invokevirtual 230, 3) := by decide +kernel
theorem dX12_findGaps_86 : decode cX12_findGaps 86 = .ok (.aload_n 0, 1) := by decide +kernel
theorem dX12_findGaps_87 : decode cX12_findGaps 87 = .ok (.iload_n 1, 1) := by decide +kernel
theorem dX12_findGaps_88 : decode cX12_findGaps 88 = .ok (.invokevirtual 230, 3) := by decide +kernel
theorem dX12_findGaps_91 : decode cX12_findGaps 91 = .ok (.isub, 1) := by decide +kernel
theorem dX12_findGaps_92 : decode cX12_findGaps 92 = .ok (.iastore, 1) := by decide +kernel
theorem dX12_findGaps_93 : decode cX12_findGaps 93 = .ok (.aload_n 0, 1) := by decide +kernel
theorem dX12_findGaps_94 : decode cX12_findGaps 94 = .ok (.dup, 1) := by decide +kernel
theorem dX12_findGaps_95 : decode cX12_findGaps 95 = .ok (.getfield 360, 3) := by decide +kernel
theorem dX12_findGaps_98 : decode cX12_findGaps 98 = .ok (.iconst 1, 1) := by decide +kernel
theorem dX12_findGaps_99 : decode cX12_findGaps 99 = .ok (.iadd, 1) := by decide +kernel
theorem dX12_findGaps_100 : decode cX12_findGaps 100 = .ok (.putfield 360, 3) := by decide +kernel
theorem dX12_findGaps_103 : decode cX12_findGaps 103 = .ok (.iload_n 2, 1) := by decide +kernel
theorem dX12_findGaps_104 : decode cX12_findGaps 104 = .ok (.istore_n 1, 1) := by decide +kernel
theorem dX12_findGaps_105 : decode cX12_findGaps 105 = .ok (.iinc 2 1, 3) := by decide +kernel
theorem dX12_findGaps_108 : decode cX12_findGaps 108 = .ok (.goto (-94), 3) := by decide +kernel
theorem dX12_findGaps_111 : decode cX12_findGaps 111 = .ok (.return_, 1) := by decide +kernel
theorem dX12_gapCount_0 : decode cX12_gapCount 0 = .ok (.aload_n 0, 1) := by decide +kernel
theorem dX12_gapCount_1 : decode cX12_gapCount 1 = .ok (.invokevirtual 363, 3) := by decide +kernel
theorem dX12_gapCount_4 : decode cX12_gapCount 4 = .ok (.aload_n 0, 1) := by decide +kernel
theorem dX12_gapCount_5 : decode cX12_gapCount 5 = .ok (.getfield 360, 3) := by decide +kernel
theorem dX12_gapCount_8 : decode cX12_gapCount 8 = .ok (.ireturn, 1) := by decide +kernel
theorem dX12_gapStart_0 : decode cX12_gapStart 0 = .ok (.aload_n 0, 1) := by decide +kernel
theorem dX12_gapStart_1 : decode cX12_gapStart 1 = .ok (.invokevirtual 363, 3) := by decide +kernel
theorem dX12_gapStart_4 : decode cX12_gapStart 4 = .ok (.iload_n 1, 1) := by decide +kernel
theorem dX12_gapStart_5 : decode cX12_gapStart 5 = .ok (.iconst 0, 1) := by decide +kernel
theorem dX12_gapStart_6 : decode cX12_gapStart 6 = .ok (.aload_n 0, 1) := by decide +kernel
theorem dX12_gapStart_7 : decode cX12_gapStart 7 = .ok (.getfield 360, 3) := by decide +kernel
theorem dX12_gapStart_10 : decode cX12_gapStart 10 = .ok (.iconst 1, 1) := by decide +kernel
theorem dX12_gapStart_11 : decode cX12_gapStart 11 = .ok (.isub, 1) := by decide +kernel
theorem dX12_gapStart_12 : decode cX12_gapStart 12 = .ok (.invokestatic 119, 3) := by decide +kernel
theorem dX12_gapStart_15 : decode cX12_gapStart 15 = .ok (.ifCond .eq 12, 3) := by decide +kernel
theorem dX12_gapStart_18 : decode cX12_gapStart 18 = .ok (.aload_n 0, 1) := by decide +kernel
theorem dX12_gapStart_19 : decode cX12_gapStart 19 = .ok (.getfield 64, 3) := by decide +kernel
theorem dX12_gapStart_22 : decode cX12_gapStart 22 = .ok (.iload_n 1, 1) := by decide +kernel
theorem dX12_gapStart_23 : decode cX12_gapStart 23 = .ok (.iaload, 1) := by decide +kernel
theorem dX12_gapStart_24 : decode cX12_gapStart 24 = .ok (.goto 4, 3) := by decide +kernel
theorem dX12_gapStart_27 : decode cX12_gapStart 27 = .ok (.iconst (-1), 1) := by decide +kernel
theorem dX12_gapStart_28 : decode cX12_gapStart 28 = .ok (.ireturn, 1) := by decide +kernel
theorem dX12_gapDays_0 : decode cX12_gapDays 0 = .ok (.aload_n 0, 1) := by decide +kernel
theorem dX12_gapDays_1 : decode cX12_gapDays 1 = .ok (.invokevirtual 363, 3) := by decide +kernel
theorem dX12_gapDays_4 : decode cX12_gapDays 4 = .ok (.iload_n 1, 1) := by decide +kernel
theorem dX12_gapDays_5 : decode cX12_gapDays 5 = .ok (.iconst 0, 1) := by decide +kernel
theorem dX12_gapDays_6 : decode cX12_gapDays 6 = .ok (.aload_n 0, 1) := by decide +kernel
theorem dX12_gapDays_7 : decode cX12_gapDays 7 = .ok (.getfield 360, 3) := by decide +kernel
theorem dX12_gapDays_10 : decode cX12_gapDays 10 = .ok (.iconst 1, 1) := by decide +kernel
theorem dX12_gapDays_11 : decode cX12_gapDays 11 = .ok (.isub, 1) := by decide +kernel
theorem dX12_gapDays_12 : decode cX12_gapDays 12 = .ok (.invokestatic 119, 3) := by decide +kernel
theorem dX12_gapDays_15 : decode cX12_gapDays 15 = .ok (.ifCond .eq 12, 3) := by decide +kernel
theorem dX12_gapDays_18 : decode cX12_gapDays 18 = .ok (.aload_n 0, 1) := by decide +kernel
theorem dX12_gapDays_19 : decode cX12_gapDays 19 = .ok (.getfield 67, 3) := by decide +kernel
theorem dX12_gapDays_22 : decode cX12_gapDays 22 = .ok (.iload_n 1, 1) := by decide +kernel
theorem dX12_gapDays_23 : decode cX12_gapDays 23 = .ok (.iaload, 1) := by decide +kernel
theorem dX12_gapDays_24 : decode cX12_gapDays 24 = .ok (.goto 4, 3) := by decide +kernel
theorem dX12_gapDays_27 : decode cX12_gapDays 27 = .ok (.iconst (-1), 1) := by decide +kernel
theorem dX12_gapDays_28 : decode cX12_gapDays 28 = .ok (.ireturn, 1) := by decide +kernel
theorem dX12_longestGap_0 : decode cX12_longestGap 0 = .ok (.aload_n 0, 1) := by decide +kernel
theorem dX12_longestGap_1 : decode cX12_longestGap 1 = .ok (.invokevirtual 363, 3) := by decide +kernel
theorem dX12_longestGap_4 : decode cX12_longestGap 4 = .ok (.iconst 0, 1) := by decide +kernel
theorem dX12_longestGap_5 : decode cX12_longestGap 5 = .ok (.istore_n 1, 1) := by decide +kernel
theorem dX12_longestGap_6 : decode cX12_longestGap 6 = .ok (.iconst 0, 1) := by decide +kernel
theorem dX12_longestGap_7 : decode cX12_longestGap 7 = .ok (.istore_n 2, 1) := by decide +kernel
theorem dX12_longestGap_8 : decode cX12_longestGap 8 = .ok (.iload_n 2, 1) := by decide +kernel
theorem dX12_longestGap_9 : decode cX12_longestGap 9 = .ok (.aload_n 0, 1) := by decide +kernel
theorem dX12_longestGap_10 : decode cX12_longestGap 10 = .ok (.getfield 360, 3) := by decide +kernel
theorem dX12_longestGap_13 : decode cX12_longestGap 13 = .ok (.if_icmp .ge 30, 3) := by decide +kernel
theorem dX12_longestGap_16 : decode cX12_longestGap 16 = .ok (.aload_n 0, 1) := by decide +kernel
theorem dX12_longestGap_17 : decode cX12_longestGap 17 = .ok (.getfield 67, 3) := by decide +kernel
theorem dX12_longestGap_20 : decode cX12_longestGap 20 = .ok (.iload_n 2, 1) := by decide +kernel
theorem dX12_longestGap_21 : decode cX12_longestGap 21 = .ok (.iaload, 1) := by decide +kernel
theorem dX12_longestGap_22 : decode cX12_longestGap 22 = .ok (.iload_n 1, 1) := by decide +kernel
theorem dX12_longestGap_23 : decode cX12_longestGap 23 = .ok (.if_icmp .le 12, 3) := by decide +kernel
theorem dX12_longestGap_26 : decode cX12_longestGap 26 = .ok (.aload_n 0, 1) := by decide +kernel
theorem dX12_longestGap_27 : decode cX12_longestGap 27 = .ok (.getfield 67, 3) := by decide +kernel
theorem dX12_longestGap_30 : decode cX12_longestGap 30 = .ok (.iload_n 2, 1) := by decide +kernel
theorem dX12_longestGap_31 : decode cX12_longestGap 31 = .ok (.iaload, 1) := by decide +kernel
theorem dX12_longestGap_32 : decode cX12_longestGap 32 = .ok (.goto 4, 3) := by decide +kernel
theorem dX12_longestGap_35 : decode cX12_longestGap 35 = .ok (.iload_n 1, 1) := by decide +kernel
theorem dX12_longestGap_36 : decode cX12_longestGap 36 = .ok (.istore_n 1, 1) := by decide +kernel
theorem dX12_longestGap_37 : decode cX12_longestGap 37 = .ok (.iinc 2 1, 3) := by decide +kernel
theorem dX12_longestGap_40 : decode cX12_longestGap 40 = .ok (.goto (-32), 3) := by decide +kernel
theorem dX12_longestGap_43 : decode cX12_longestGap 43 = .ok (.iload_n 1, 1) := by decide +kernel
theorem dX12_longestGap_44 : decode cX12_longestGap 44 = .ok (.ireturn, 1) := by decide +kernel
theorem dX12_readings_0 : decode cX12_readings 0 = .ok (.aload_n 0, 1) := by decide +kernel
theorem dX12_readings_1 : decode cX12_readings 1 = .ok (.getfield 7, 3) := by decide +kernel
theorem dX12_readings_4 : decode cX12_readings 4 = .ok (.bipush 32, 2) := by decide +kernel
theorem dX12_readings_6 : decode cX12_readings 6 = .ok (.iload_n 1, 1) := by decide +kernel
theorem dX12_readings_7 : decode cX12_readings 7 = .ok (.iadd, 1) := by decide +kernel
theorem dX12_readings_8 : decode cX12_readings 8 = .ok (.iaload, 1) := by decide +kernel
theorem dX12_readings_9 : decode cX12_readings 9 = .ok (.ireturn, 1) := by decide +kernel
theorem dX12_readDay_0 : decode cX12_readDay 0 = .ok (.aload_n 0, 1) := by decide +kernel
theorem dX12_readDay_1 : decode cX12_readDay 1 = .ok (.getfield 7, 3) := by decide +kernel
theorem dX12_readDay_4 : decode cX12_readDay 4 = .ok (.bipush 35, 2) := by decide +kernel
theorem dX12_readDay_6 : decode cX12_readDay 6 = .ok (.bipush 8, 2) := by decide +kernel
theorem dX12_readDay_8 : decode cX12_readDay 8 = .ok (.iload_n 1, 1) := by decide +kernel
theorem dX12_readDay_9 : decode cX12_readDay 9 = .ok (.imul, 1) := by decide +kernel
theorem dX12_readDay_10 : decode cX12_readDay 10 = .ok (.iadd, 1) := by decide +kernel
theorem dX12_readDay_11 : decode cX12_readDay 11 = .ok (.iload_n 2, 1) := by decide +kernel
theorem dX12_readDay_12 : decode cX12_readDay 12 = .ok (.iadd, 1) := by decide +kernel
theorem dX12_readDay_13 : decode cX12_readDay 13 = .ok (.iaload, 1) := by decide +kernel
theorem dX12_readDay_14 : decode cX12_readDay 14 = .ok (.ireturn, 1) := by decide +kernel
theorem dX12_readLength_0 : decode cX12_readLength 0 = .ok (.aload_n 0, 1) := by decide +kernel
theorem dX12_readLength_1 : decode cX12_readLength 1 = .ok (.getfield 7, 3) := by decide +kernel
theorem dX12_readLength_4 : decode cX12_readLength 4 = .ok (.bipush 59, 2) := by decide +kernel
theorem dX12_readLength_6 : decode cX12_readLength 6 = .ok (.bipush 8, 2) := by decide +kernel
theorem dX12_readLength_8 : decode cX12_readLength 8 = .ok (.iload_n 1, 1) := by decide +kernel
theorem dX12_readLength_9 : decode cX12_readLength 9 = .ok (.imul, 1) := by decide +kernel
theorem dX12_readLength_10 : decode cX12_readLength 10 = .ok (.iadd, 1) := by decide +kernel
theorem dX12_readLength_11 : decode cX12_readLength 11 = .ok (.iload_n 2, 1) := by decide +kernel
theorem dX12_readLength_12 : decode cX12_readLength 12 = .ok (.iadd, 1) := by decide +kernel
theorem dX12_readLength_13 : decode cX12_readLength 13 = .ok (.iaload, 1) := by decide +kernel
theorem dX12_readLength_14 : decode cX12_readLength 14 = .ok (.ireturn, 1) := by decide +kernel
theorem dX12_readingCount_0 : decode cX12_readingCount 0 = .ok (.aload_n 0, 1) := by decide +kernel
theorem dX12_readingCount_1 : decode cX12_readingCount 1 = .ok (.aload_n 0, 1) := by decide +kernel
theorem dX12_readingCount_2 : decode cX12_readingCount 2 = .ok (.iload_n 1, 1) := by decide +kernel
theorem dX12_readingCount_3 : decode cX12_readingCount 3 = .ok (.invokevirtual 366, 3) := by decide +kernel
theorem dX12_readingCount_6 : decode cX12_readingCount 6 = .ok (.invokevirtual 226, 3) := by decide +kernel
theorem dX12_readingCount_9 : decode cX12_readingCount 9 = .ok (.ifCond .eq 7, 3) := by decide +kernel
theorem dX12_readingCount_12 : decode cX12_readingCount 12 = .ok (.iconst 0, 1) := by decide +kernel
theorem dX12_readingCount_13 : decode cX12_readingCount 13 = .ok (.goto 8, 3) := by decide +kernel
theorem dX12_readingCount_16 : decode cX12_readingCount 16 = .ok (.aload_n 0, 1) := by decide +kernel
theorem dX12_readingCount_17 : decode cX12_readingCount 17 = .ok (.iload_n 1, 1) := by decide +kernel
theorem dX12_readingCount_18 : decode cX12_readingCount 18 = .ok (.invokevirtual 369, 3) := by decide +kernel
theorem dX12_readingCount_21 : decode cX12_readingCount 21 = .ok (.ireturn, 1) := by decide +kernel
theorem dX12_isReading_0 : decode cX12_isReading 0 = .ok (.aload_n 0, 1) := by decide +kernel
theorem dX12_isReading_1 : decode cX12_isReading 1 = .ok (.iload_n 1, 1) := by decide +kernel
theorem dX12_isReading_2 : decode cX12_isReading 2 = .ok (.invokevirtual 366, 3) := by decide +kernel
theorem dX12_isReading_5 : decode cX12_isReading 5 = .ok (.ifCond .eq 22, 3) := by decide +kernel
theorem dX12_isReading_8 : decode cX12_isReading 8 = .ok (.iload_n 2, 1) := by decide +kernel
theorem dX12_isReading_9 : decode cX12_isReading 9 = .ok (.iconst 0, 1) := by decide +kernel
theorem dX12_isReading_10 : decode cX12_isReading 10 = .ok (.aload_n 0, 1) := by decide +kernel
theorem dX12_isReading_11 : decode cX12_isReading 11 = .ok (.iload_n 1, 1) := by decide +kernel
theorem dX12_isReading_12 : decode cX12_isReading 12 = .ok (.invokevirtual 369, 3) := by decide +kernel
theorem dX12_isReading_15 : decode cX12_isReading 15 = .ok (.iconst 1, 1) := by decide +kernel
theorem dX12_isReading_16 : decode cX12_isReading 16 = .ok (.isub, 1) := by decide +kernel
theorem dX12_isReading_17 : decode cX12_isReading 17 = .ok (.invokestatic 119, 3) := by decide +kernel
theorem dX12_isReading_20 : decode cX12_isReading 20 = .ok (.ifCond .eq 7, 3) := by decide +kernel
theorem dX12_isReading_23 : decode cX12_isReading 23 = .ok (.iconst 1, 1) := by decide +kernel
theorem dX12_isReading_24 : decode cX12_isReading 24 = .ok (.goto 4, 3) := by decide +kernel
theorem dX12_isReading_27 : decode cX12_isReading 27 = .ok (.iconst 0, 1) := by decide +kernel
theorem dX12_isReading_28 : decode cX12_isReading 28 = .ok (.ireturn, 1) := by decide +kernel
theorem dX12_readingDay_0 : decode cX12_readingDay 0 = .ok (.aload_n 0, 1) := by decide +kernel
theorem dX12_readingDay_1 : decode cX12_readingDay 1 = .ok (.aload_n 0, 1) := by decide +kernel
theorem dX12_readingDay_2 : decode cX12_readingDay 2 = .ok (.iload_n 1, 1) := by decide +kernel
theorem dX12_readingDay_3 : decode cX12_readingDay 3 = .ok (.iload_n 2, 1) := by decide +kernel
theorem dX12_readingDay_4 : decode cX12_readingDay 4 = .ok (.invokevirtual 372, 3) := by decide +kernel
theorem dX12_readingDay_7 : decode cX12_readingDay 7 = .ok (.invokevirtual 226, 3) := by decide +kernel
theorem dX12_readingDay_10 : decode cX12_readingDay 10 = .ok (.ifCond .eq 7, 3) := by decide +kernel
theorem dX12_readingDay_13 : decode cX12_readingDay 13 = .ok (.iconst 0, 1) := by decide +kernel
theorem dX12_readingDay_14 : decode cX12_readingDay 14 = .ok (.goto 9, 3) := by decide +kernel
theorem dX12_readingDay_17 : decode cX12_readingDay 17 = .ok (.aload_n 0, 1) := by decide +kernel
theorem dX12_readingDay_18 : decode cX12_readingDay 18 = .ok (.iload_n 1, 1) := by decide +kernel
theorem dX12_readingDay_19 : decode cX12_readingDay 19 = .ok (.iload_n 2, 1) := by decide +kernel
theorem dX12_readingDay_20 : decode cX12_readingDay 20 = .ok (.invokevirtual 375, 3) := by decide +kernel
theorem dX12_readingDay_23 : decode cX12_readingDay 23 = .ok (.ireturn, 1) := by decide +kernel
theorem dX12_readingLength_0 : decode cX12_readingLength 0 = .ok (.aload_n 0, 1) := by decide +kernel
theorem dX12_readingLength_1 : decode cX12_readingLength 1 = .ok (.aload_n 0, 1) := by decide +kernel
theorem dX12_readingLength_2 : decode cX12_readingLength 2 = .ok (.iload_n 1, 1) := by decide +kernel
theorem dX12_readingLength_3 : decode cX12_readingLength 3 = .ok (.iload_n 2, 1) := by decide +kernel
theorem dX12_readingLength_4 : decode cX12_readingLength 4 = .ok (.invokevirtual 372, 3) := by decide +kernel
theorem dX12_readingLength_7 : decode cX12_readingLength 7 = .ok (.invokevirtual 226, 3) := by decide +kernel
theorem dX12_readingLength_10 : decode cX12_readingLength 10 = .ok (.ifCond .eq 7, 3) := by decide +kernel
theorem dX12_readingLength_13 : decode cX12_readingLength 13 = .ok (.iconst 0, 1) := by decide +kernel
theorem dX12_readingLength_14 : decode cX12_readingLength 14 = .ok (.goto 9, 3) := by decide +kernel
theorem dX12_readingLength_17 : decode cX12_readingLength 17 = .ok (.aload_n 0, 1) := by decide +kernel
theorem dX12_readingLength_18 : decode cX12_readingLength 18 = .ok (.iload_n 1, 1) := by decide +kernel
theorem dX12_readingLength_19 : decode cX12_readingLength 19 = .ok (.iload_n 2, 1) := by decide +kernel
theorem dX12_readingLength_20 : decode cX12_readingLength 20 = .ok (.invokevirtual 378, 3) := by decide +kernel
theorem dX12_readingLength_23 : decode cX12_readingLength 23 = .ok (.ireturn, 1) := by decide +kernel
theorem dX12_readingOn_0 : decode cX12_readingOn 0 = .ok (.iconst 0, 1) := by decide +kernel
theorem dX12_readingOn_1 : decode cX12_readingOn 1 = .ok (.istore_n 3, 1) := by decide +kernel
theorem dX12_readingOn_2 : decode cX12_readingOn 2 = .ok (.iload_n 3, 1) := by decide +kernel
theorem dX12_readingOn_3 : decode cX12_readingOn 3 = .ok (.aload_n 0, 1) := by decide +kernel
theorem dX12_readingOn_4 : decode cX12_readingOn 4 = .ok (.iload_n 1, 1) := by decide +kernel
theorem dX12_readingOn_5 : decode cX12_readingOn 5 = .ok (.invokevirtual 369, 3) := by decide +kernel
theorem dX12_readingOn_8 : decode cX12_readingOn 8 = .ok (.if_icmp .ge 21, 3) := by decide +kernel
theorem dX12_readingOn_11 : decode cX12_readingOn 11 = .ok (.aload_n 0, 1) := by decide +kernel
theorem dX12_readingOn_12 : decode cX12_readingOn 12 = .ok (.iload_n 1, 1) := by decide +kernel
theorem dX12_readingOn_13 : decode cX12_readingOn 13 = .ok (.iload_n 3, 1) := by decide +kernel
theorem dX12_readingOn_14 : decode cX12_readingOn 14 = .ok (.invokevirtual 375, 3) := by decide +kernel
theorem dX12_readingOn_17 : decode cX12_readingOn 17 = .ok (.iload_n 2, 1) := by decide +kernel
theorem dX12_readingOn_18 : decode cX12_readingOn 18 = .ok (.if_icmp .ne 5, 3) := by decide +kernel
theorem dX12_readingOn_21 : decode cX12_readingOn 21 = .ok (.iload_n 3, 1) := by decide +kernel
theorem dX12_readingOn_22 : decode cX12_readingOn 22 = .ok (.ireturn, 1) := by decide +kernel
theorem dX12_readingOn_23 : decode cX12_readingOn 23 = .ok (.iinc 3 1, 3) := by decide +kernel
theorem dX12_readingOn_26 : decode cX12_readingOn 26 = .ok (.goto (-24), 3) := by decide +kernel
theorem dX12_readingOn_29 : decode cX12_readingOn 29 = .ok (.iconst (-1), 1) := by decide +kernel
theorem dX12_readingOn_30 : decode cX12_readingOn 30 = .ok (.ireturn, 1) := by decide +kernel
theorem dX12_addReading_0 : decode cX12_addReading 0 = .ok (.aload_n 0, 1) := by decide +kernel
theorem dX12_addReading_1 : decode cX12_addReading 1 = .ok (.iconst 0, 1) := by decide +kernel
theorem dX12_addReading_2 : decode cX12_addReading 2 = .ok (.putfield 83, 3) := by decide +kernel
theorem dX12_addReading_5 : decode cX12_addReading 5 = .ok (.aload_n 0, 1) := by decide +kernel
theorem dX12_addReading_6 : decode cX12_addReading 6 = .ok (.iload_n 1, 1) := by decide +kernel
theorem dX12_addReading_7 : decode cX12_addReading 7 = .ok (.invokevirtual 366, 3) := by decide +kernel
theorem dX12_addReading_10 : decode cX12_addReading 10 = .ok (.ifCond .ne 5, 3) := by decide +kernel
theorem dX12_addReading_13 : decode cX12_addReading 13 = .ok (.iconst (-1), 1) := by decide +kernel
theorem dX12_addReading_14 : decode cX12_addReading 14 = .ok (.ireturn, 1) := by decide +kernel
theorem dX12_addReading_15 : decode cX12_addReading 15 = .ok (.iload_n 2, 1) := by decide +kernel
theorem dX12_addReading_16 : decode cX12_addReading 16 = .ok (.iconst 0, 1) := by decide +kernel
theorem dX12_addReading_17 : decode cX12_addReading 17 = .ok (.sipush 9999, 3) := by decide +kernel
theorem dX12_addReading_20 : decode cX12_addReading 20 = .ok (.invokestatic 119, 3) := by decide +kernel
theorem dX12_addReading_23 : decode cX12_addReading 23 = .ok (.ifCond .eq 23, 3) := by decide +kernel
theorem dX12_addReading_26 : decode cX12_addReading 26 = .ok (.iload_n 3, 1) := by decide +kernel
theorem dX12_addReading_27 : decode cX12_addReading 27 = .ok (.iconst 0, 1) := by decide +kernel
theorem dX12_addReading_28 : decode cX12_addReading 28 = .ok (.sipush 9999, 3) := by decide +kernel
theorem dX12_addReading_31 : decode cX12_addReading 31 = .ok (.invokestatic 119, 3) := by decide +kernel
theorem dX12_addReading_34 : decode cX12_addReading 34 = .ok (.ifCond .eq 12, 3) := by decide +kernel
theorem dX12_addReading_37 : decode cX12_addReading 37 = .ok (.aload_n 0, 1) := by decide +kernel
theorem dX12_addReading_38 : decode cX12_addReading 38 = .ok (.iload_n 1, 1) := by decide +kernel
theorem dX12_addReading_39 : decode cX12_addReading 39 = .ok (.iload_n 2, 1) := by decide +kernel
theorem dX12_addReading_40 : decode cX12_addReading 40 = .ok (.invokevirtual 381, 3) := by decide +kernel
theorem dX12_addReading_43 : decode cX12_addReading 43 = .ok (.ifCond .lt 6, 3) := by decide +kernel
theorem dX12_addReading_46 : decode cX12_addReading 46 = .ok (.bipush (-2), 2) := by decide +kernel
theorem dX12_addReading_48 : decode cX12_addReading 48 = .ok (.ireturn, 1) := by decide +kernel
theorem dX12_addReading_49 : decode cX12_addReading 49 = .ok (.aload_n 0, 1) := by decide +kernel
theorem dX12_addReading_50 : decode cX12_addReading 50 = .ok (.iload_n 1, 1) := by decide +kernel
theorem dX12_addReading_51 : decode cX12_addReading 51 = .ok (.invokevirtual 369, 3) := by decide +kernel
theorem dX12_addReading_54 : decode cX12_addReading 54 = .ok (.bipush 8, 2) := by decide +kernel
theorem dX12_addReading_56 : decode cX12_addReading 56 = .ok (.if_icmp .ne 6, 3) := by decide +kernel
theorem dX12_addReading_59 : decode cX12_addReading 59 = .ok (.bipush (-3), 2) := by decide +kernel
theorem dX12_addReading_61 : decode cX12_addReading 61 = .ok (.ireturn, 1) := by decide +kernel
theorem dX12_addReading_62 : decode cX12_addReading 62 = .ok (.aload_n 0, 1) := by decide +kernel
theorem dX12_addReading_63 : decode cX12_addReading 63 = .ok (.invokevirtual 219, 3) := by decide +kernel
theorem dX12_addReading_66 : decode cX12_addReading 66 = .ok (.aload_n 0, 1) := by decide +kernel
theorem dX12_addReading_67 : decode cX12_addReading 67 = .ok (.iload_n 1, 1) := by decide +kernel
theorem dX12_addReading_68 : decode cX12_addReading 68 = .ok (.invokevirtual 369, 3) := by decide +kernel
theorem dX12_addReading_71 : decode cX12_addReading 71 = .ok (.istore 4, 2) := by decide +kernel
theorem dX12_addReading_73 : decode cX12_addReading 73 = .ok (.iload 4, 2) := by decide +kernel
theorem dX12_addReading_75 : decode cX12_addReading 75 = .ok (.ifCond .le 70, 3) := by decide +kernel
theorem dX12_addReading_78 : decode cX12_addReading 78 = .ok (.aload_n 0, 1) := by decide +kernel
theorem dX12_addReading_79 : decode cX12_addReading 79 = .ok (.iload_n 1, 1) := by decide +kernel
theorem dX12_addReading_80 : decode cX12_addReading 80 = .ok (.iload 4, 2) := by decide +kernel
theorem dX12_addReading_82 : decode cX12_addReading 82 = .ok (.iconst 1, 1) := by decide +kernel
theorem dX12_addReading_83 : decode cX12_addReading 83 = .ok (.isub, 1) := by decide +kernel
theorem dX12_addReading_84 : decode cX12_addReading 84 = .ok (.invokevirtual 375, 3) := by decide +kernel
theorem dX12_addReading_87 : decode cX12_addReading 87 = .ok (.iload_n 2, 1) := by decide +kernel
theorem dX12_addReading_88 : decode cX12_addReading 88 = .ok (.if_icmp .le 57, 3) := by decide +kernel
theorem dX12_addReading_91 : decode cX12_addReading 91 = .ok (.aload_n 0, 1) := by decide +kernel
theorem dX12_addReading_92 : decode cX12_addReading 92 = .ok (.getfield 7, 3) := by decide +kernel
theorem dX12_addReading_95 : decode cX12_addReading 95 = .ok (.bipush 35, 2) := by decide +kernel
theorem dX12_addReading_97 : decode cX12_addReading 97 = .ok (.bipush 8, 2) := by decide +kernel
theorem dX12_addReading_99 : decode cX12_addReading 99 = .ok (.iload_n 1, 1) := by decide +kernel
theorem dX12_addReading_100 : decode cX12_addReading 100 = .ok (.imul, 1) := by decide +kernel
theorem dX12_addReading_101 : decode cX12_addReading 101 = .ok (.iadd, 1) := by decide +kernel
theorem dX12_addReading_102 : decode cX12_addReading 102 = .ok (.iload 4, 2) := by decide +kernel
theorem dX12_addReading_104 : decode cX12_addReading 104 = .ok (.iadd, 1) := by decide +kernel
theorem dX12_addReading_105 : decode cX12_addReading 105 = .ok (.aload_n 0, 1) := by decide +kernel
theorem dX12_addReading_106 : decode cX12_addReading 106 = .ok (.iload_n 1, 1) := by decide +kernel
theorem dX12_addReading_107 : decode cX12_addReading 107 = .ok (.iload 4, 2) := by decide +kernel
theorem dX12_addReading_109 : decode cX12_addReading 109 = .ok (.iconst 1, 1) := by decide +kernel
theorem dX12_addReading_110 : decode cX12_addReading 110 = .ok (.isub, 1) := by decide +kernel
theorem dX12_addReading_111 : decode cX12_addReading 111 = .ok (.invokevirtual 375, 3) := by decide +kernel
theorem dX12_addReading_114 : decode cX12_addReading 114 = .ok (.iastore, 1) := by decide +kernel
theorem dX12_addReading_115 : decode cX12_addReading 115 = .ok (.aload_n 0, 1) := by decide +kernel
theorem dX12_addReading_116 : decode cX12_addReading 116 = .ok (.getfield 7, 3) := by decide +kernel
theorem dX12_addReading_119 : decode cX12_addReading 119 = .ok (.bipush 59, 2) := by decide +kernel
theorem dX12_addReading_121 : decode cX12_addReading 121 = .ok (.bipush 8, 2) := by decide +kernel
theorem dX12_addReading_123 : decode cX12_addReading 123 = .ok (.iload_n 1, 1) := by decide +kernel
theorem dX12_addReading_124 : decode cX12_addReading 124 = .ok (.imul, 1) := by decide +kernel
theorem dX12_addReading_125 : decode cX12_addReading 125 = .ok (.iadd, 1) := by decide +kernel
theorem dX12_addReading_126 : decode cX12_addReading 126 = .ok (.iload 4, 2) := by decide +kernel
theorem dX12_addReading_128 : decode cX12_addReading 128 = .ok (.iadd, 1) := by decide +kernel
theorem dX12_addReading_129 : decode cX12_addReading 129 = .ok (.aload_n 0, 1) := by decide +kernel
theorem dX12_addReading_130 : decode cX12_addReading 130 = .ok (.iload_n 1, 1) := by decide +kernel
theorem dX12_addReading_131 : decode cX12_addReading 131 = .ok (.iload 4, 2) := by decide +kernel
theorem dX12_addReading_133 : decode cX12_addReading 133 = .ok (.iconst 1, 1) := by decide +kernel
theorem dX12_addReading_134 : decode cX12_addReading 134 = .ok (.isub, 1) := by decide +kernel
theorem dX12_addReading_135 : decode cX12_addReading 135 = .ok (.invokevirtual 378, 3) := by decide +kernel
theorem dX12_addReading_138 : decode cX12_addReading 138 = .ok (.iastore, 1) := by decide +kernel
theorem dX12_addReading_139 : decode cX12_addReading 139 = .ok (.iinc 4 (-1), 3) := by decide +kernel
theorem dX12_addReading_142 : decode cX12_addReading 142 = .ok (.goto (-69), 3) := by decide +kernel
theorem dX12_addReading_145 : decode cX12_addReading 145 = .ok (.aload_n 0, 1) := by decide +kernel
theorem dX12_addReading_146 : decode cX12_addReading 146 = .ok (.getfield 7, 3) := by decide +kernel
theorem dX12_addReading_149 : decode cX12_addReading 149 = .ok (.bipush 35, 2) := by decide +kernel
theorem dX12_addReading_151 : decode cX12_addReading 151 = .ok (.bipush 8, 2) := by decide +kernel
theorem dX12_addReading_153 : decode cX12_addReading 153 = .ok (.iload_n 1, 1) := by decide +kernel
theorem dX12_addReading_154 : decode cX12_addReading 154 = .ok (.imul, 1) := by decide +kernel
theorem dX12_addReading_155 : decode cX12_addReading 155 = .ok (.iadd, 1) := by decide +kernel
theorem dX12_addReading_156 : decode cX12_addReading 156 = .ok (.iload 4, 2) := by decide +kernel
theorem dX12_addReading_158 : decode cX12_addReading 158 = .ok (.iadd, 1) := by decide +kernel
theorem dX12_addReading_159 : decode cX12_addReading 159 = .ok (.iload_n 2, 1) := by decide +kernel
theorem dX12_addReading_160 : decode cX12_addReading 160 = .ok (.iastore, 1) := by decide +kernel
theorem dX12_addReading_161 : decode cX12_addReading 161 = .ok (.aload_n 0, 1) := by decide +kernel
theorem dX12_addReading_162 : decode cX12_addReading 162 = .ok (.getfield 7, 3) := by decide +kernel
theorem dX12_addReading_165 : decode cX12_addReading 165 = .ok (.bipush 59, 2) := by decide +kernel
theorem dX12_addReading_167 : decode cX12_addReading 167 = .ok (.bipush 8, 2) := by decide +kernel
theorem dX12_addReading_169 : decode cX12_addReading 169 = .ok (.iload_n 1, 1) := by decide +kernel
theorem dX12_addReading_170 : decode cX12_addReading 170 = .ok (.imul, 1) := by decide +kernel
theorem dX12_addReading_171 : decode cX12_addReading 171 = .ok (.iadd, 1) := by decide +kernel
theorem dX12_addReading_172 : decode cX12_addReading 172 = .ok (.iload 4, 2) := by decide +kernel
theorem dX12_addReading_174 : decode cX12_addReading 174 = .ok (.iadd, 1) := by decide +kernel
theorem dX12_addReading_175 : decode cX12_addReading 175 = .ok (.iload_n 3, 1) := by decide +kernel
theorem dX12_addReading_176 : decode cX12_addReading 176 = .ok (.iastore, 1) := by decide +kernel
theorem dX12_addReading_177 : decode cX12_addReading 177 = .ok (.aload_n 0, 1) := by decide +kernel
theorem dX12_addReading_178 : decode cX12_addReading 178 = .ok (.getfield 7, 3) := by decide +kernel
theorem dX12_addReading_181 : decode cX12_addReading 181 = .ok (.bipush 32, 2) := by decide +kernel
theorem dX12_addReading_183 : decode cX12_addReading 183 = .ok (.iload_n 1, 1) := by decide +kernel
theorem dX12_addReading_184 : decode cX12_addReading 184 = .ok (.iadd, 1) := by decide +kernel
theorem dX12_addReading_185 : decode cX12_addReading 185 = .ok (.dup2, 1) := by decide +kernel
theorem dX12_addReading_186 : decode cX12_addReading 186 = .ok (.iaload, 1) := by decide +kernel
theorem dX12_addReading_187 : decode cX12_addReading 187 = .ok (.iconst 1, 1) := by decide +kernel
theorem dX12_addReading_188 : decode cX12_addReading 188 = .ok (.iadd, 1) := by decide +kernel
theorem dX12_addReading_189 : decode cX12_addReading 189 = .ok (.iastore, 1) := by decide +kernel
theorem dX12_addReading_190 : decode cX12_addReading 190 = .ok (.aload_n 0, 1) := by decide +kernel
theorem dX12_addReading_191 : decode cX12_addReading 191 = .ok (.iload_n 1, 1) := by decide +kernel
theorem dX12_addReading_192 : decode cX12_addReading 192 = .ok (.invokevirtual 369, 3) := by decide +kernel
theorem dX12_addReading_195 : decode cX12_addReading 195 = .ok (.ireturn, 1) := by decide +kernel
theorem dX12_removeReading_0 : decode cX12_removeReading 0 = .ok (.aload_n 0, 1) := by decide +kernel
theorem dX12_removeReading_1 : decode cX12_removeReading 1 = .ok (.iconst 0, 1) := by decide +kernel
theorem dX12_removeReading_2 : decode cX12_removeReading 2 = .ok (.putfield 83, 3) := by decide +kernel
theorem dX12_removeReading_5 : decode cX12_removeReading 5 = .ok (.aload_n 0, 1) := by decide +kernel
theorem dX12_removeReading_6 : decode cX12_removeReading 6 = .ok (.iload_n 1, 1) := by decide +kernel
theorem dX12_removeReading_7 : decode cX12_removeReading 7 = .ok (.invokevirtual 366, 3) := by decide +kernel
theorem dX12_removeReading_10 : decode cX12_removeReading 10 = .ok (.ifCond .eq 12, 3) := by decide +kernel
theorem dX12_removeReading_13 : decode cX12_removeReading 13 = .ok (.aload_n 0, 1) := by decide +kernel
theorem dX12_removeReading_14 : decode cX12_removeReading 14 = .ok (.iload_n 1, 1) := by decide +kernel
theorem dX12_removeReading_15 : decode cX12_removeReading 15 = .ok (.iload_n 2, 1) := by decide +kernel
theorem dX12_removeReading_16 : decode cX12_removeReading 16 = .ok (.invokevirtual 381, 3) := by decide +kernel
theorem dX12_removeReading_19 : decode cX12_removeReading 19 = .ok (.ifCond .ge 5, 3) := by decide +kernel
theorem dX12_removeReading_22 : decode cX12_removeReading 22 = .ok (.iconst (-1), 1) := by decide +kernel
theorem dX12_removeReading_23 : decode cX12_removeReading 23 = .ok (.ireturn, 1) := by decide +kernel
theorem dX12_removeReading_24 : decode cX12_removeReading 24 = .ok (.aload_n 0, 1) := by decide +kernel
theorem dX12_removeReading_25 : decode cX12_removeReading 25 = .ok (.invokevirtual 219, 3) := by decide +kernel
theorem dX12_removeReading_28 : decode cX12_removeReading 28 = .ok (.aload_n 0, 1) := by decide +kernel
theorem dX12_removeReading_29 : decode cX12_removeReading 29 = .ok (.iload_n 1, 1) := by decide +kernel
theorem dX12_removeReading_30 : decode cX12_removeReading 30 = .ok (.iload_n 2, 1) := by decide +kernel
theorem dX12_removeReading_31 : decode cX12_removeReading 31 = .ok (.invokevirtual 381, 3) := by decide +kernel
theorem dX12_removeReading_34 : decode cX12_removeReading 34 = .ok (.istore_n 3, 1) := by decide +kernel
theorem dX12_removeReading_35 : decode cX12_removeReading 35 = .ok (.iload_n 3, 1) := by decide +kernel
theorem dX12_removeReading_36 : decode cX12_removeReading 36 = .ok (.iconst 1, 1) := by decide +kernel
theorem dX12_removeReading_37 : decode cX12_removeReading 37 = .ok (.iadd, 1) := by decide +kernel
theorem dX12_removeReading_38 : decode cX12_removeReading 38 = .ok (.aload_n 0, 1) := by decide +kernel
theorem dX12_removeReading_39 : decode cX12_removeReading 39 = .ok (.iload_n 1, 1) := by decide +kernel
theorem dX12_removeReading_40 : decode cX12_removeReading 40 = .ok (.invokevirtual 369, 3) := by decide +kernel
theorem dX12_removeReading_43 : decode cX12_removeReading 43 = .ok (.if_icmp .ge 53, 3) := by decide +kernel
theorem dX12_removeReading_46 : decode cX12_removeReading 46 = .ok (.aload_n 0, 1) := by decide +kernel
theorem dX12_removeReading_47 : decode cX12_removeReading 47 = .ok (.getfield 7, 3) := by decide +kernel
theorem dX12_removeReading_50 : decode cX12_removeReading 50 = .ok (.bipush 35, 2) := by decide +kernel
theorem dX12_removeReading_52 : decode cX12_removeReading 52 = .ok (.bipush 8, 2) := by decide +kernel
theorem dX12_removeReading_54 : decode cX12_removeReading 54 = .ok (.iload_n 1, 1) := by decide +kernel
theorem dX12_removeReading_55 : decode cX12_removeReading 55 = .ok (.imul, 1) := by decide +kernel
theorem dX12_removeReading_56 : decode cX12_removeReading 56 = .ok (.iadd, 1) := by decide +kernel
theorem dX12_removeReading_57 : decode cX12_removeReading 57 = .ok (.iload_n 3, 1) := by decide +kernel
theorem dX12_removeReading_58 : decode cX12_removeReading 58 = .ok (.iadd, 1) := by decide +kernel
theorem dX12_removeReading_59 : decode cX12_removeReading 59 = .ok (.aload_n 0, 1) := by decide +kernel
theorem dX12_removeReading_60 : decode cX12_removeReading 60 = .ok (.iload_n 1, 1) := by decide +kernel
theorem dX12_removeReading_61 : decode cX12_removeReading 61 = .ok (.iload_n 3, 1) := by decide +kernel
theorem dX12_removeReading_62 : decode cX12_removeReading 62 = .ok (.iconst 1, 1) := by decide +kernel
theorem dX12_removeReading_63 : decode cX12_removeReading 63 = .ok (.iadd, 1) := by decide +kernel
theorem dX12_removeReading_64 : decode cX12_removeReading 64 = .ok (.invokevirtual 375, 3) := by decide +kernel
theorem dX12_removeReading_67 : decode cX12_removeReading 67 = .ok (.iastore, 1) := by decide +kernel
theorem dX12_removeReading_68 : decode cX12_removeReading 68 = .ok (.aload_n 0, 1) := by decide +kernel
theorem dX12_removeReading_69 : decode cX12_removeReading 69 = .ok (.getfield 7, 3) := by decide +kernel
theorem dX12_removeReading_72 : decode cX12_removeReading 72 = .ok (.bipush 59, 2) := by decide +kernel
theorem dX12_removeReading_74 : decode cX12_removeReading 74 = .ok (.bipush 8, 2) := by decide +kernel
theorem dX12_removeReading_76 : decode cX12_removeReading 76 = .ok (.iload_n 1, 1) := by decide +kernel
theorem dX12_removeReading_77 : decode cX12_removeReading 77 = .ok (.imul, 1) := by decide +kernel
theorem dX12_removeReading_78 : decode cX12_removeReading 78 = .ok (.iadd, 1) := by decide +kernel
theorem dX12_removeReading_79 : decode cX12_removeReading 79 = .ok (.iload_n 3, 1) := by decide +kernel
theorem dX12_removeReading_80 : decode cX12_removeReading 80 = .ok (.iadd, 1) := by decide +kernel
theorem dX12_removeReading_81 : decode cX12_removeReading 81 = .ok (.aload_n 0, 1) := by decide +kernel
theorem dX12_removeReading_82 : decode cX12_removeReading 82 = .ok (.iload_n 1, 1) := by decide +kernel
theorem dX12_removeReading_83 : decode cX12_removeReading 83 = .ok (.iload_n 3, 1) := by decide +kernel
theorem dX12_removeReading_84 : decode cX12_removeReading 84 = .ok (.iconst 1, 1) := by decide +kernel
theorem dX12_removeReading_85 : decode cX12_removeReading 85 = .ok (.iadd, 1) := by decide +kernel
theorem dX12_removeReading_86 : decode cX12_removeReading 86 = .ok (.invokevirtual 378, 3) := by decide +kernel
theorem dX12_removeReading_89 : decode cX12_removeReading 89 = .ok (.iastore, 1) := by decide +kernel
theorem dX12_removeReading_90 : decode cX12_removeReading 90 = .ok (.iinc 3 1, 3) := by decide +kernel
theorem dX12_removeReading_93 : decode cX12_removeReading 93 = .ok (.goto (-58), 3) := by decide +kernel
theorem dX12_removeReading_96 : decode cX12_removeReading 96 = .ok (.aload_n 0, 1) := by decide +kernel
theorem dX12_removeReading_97 : decode cX12_removeReading 97 = .ok (.getfield 7, 3) := by decide +kernel
theorem dX12_removeReading_100 : decode cX12_removeReading 100 = .ok (.bipush 32, 2) := by decide +kernel
theorem dX12_removeReading_102 : decode cX12_removeReading 102 = .ok (.iload_n 1, 1) := by decide +kernel
theorem dX12_removeReading_103 : decode cX12_removeReading 103 = .ok (.iadd, 1) := by decide +kernel
theorem dX12_removeReading_104 : decode cX12_removeReading 104 = .ok (.dup2, 1) := by decide +kernel
theorem dX12_removeReading_105 : decode cX12_removeReading 105 = .ok (.iaload, 1) := by decide +kernel
theorem dX12_removeReading_106 : decode cX12_removeReading 106 = .ok (.iconst 1, 1) := by decide +kernel
theorem dX12_removeReading_107 : decode cX12_removeReading 107 = .ok (.isub, 1) := by decide +kernel
theorem dX12_removeReading_108 : decode cX12_removeReading 108 = .ok (.iastore, 1) := by decide +kernel
theorem dX12_removeReading_109 : decode cX12_removeReading 109 = .ok (.aload_n 0, 1) := by decide +kernel
theorem dX12_removeReading_110 : decode cX12_removeReading 110 = .ok (.iload_n 1, 1) := by decide +kernel
theorem dX12_removeReading_111 : decode cX12_removeReading 111 = .ok (.invokevirtual 369, 3) := by decide +kernel
theorem dX12_removeReading_114 : decode cX12_removeReading 114 = .ok (.ireturn, 1) := by decide +kernel
theorem dX12_isDrilled_0 : decode cX12_isDrilled 0 = .ok (.aload_n 0, 1) := by decide +kernel
theorem dX12_isDrilled_1 : decode cX12_isDrilled 1 = .ok (.iload_n 1, 1) := by decide +kernel
theorem dX12_isDrilled_2 : decode cX12_isDrilled 2 = .ok (.iload_n 2, 1) := by decide +kernel
theorem dX12_isDrilled_3 : decode cX12_isDrilled 3 = .ok (.iconst 1, 1) := by decide +kernel
theorem dX12_isDrilled_4 : decode cX12_isDrilled 4 = .ok (.iadd, 1) := by decide +kernel
theorem dX12_isDrilled_5 : decode cX12_isDrilled 5 = .ok (.invokevirtual 378, 3) := by decide +kernel
theorem dX12_isDrilled_8 : decode cX12_isDrilled 8 = .ok (.aload_n 0, 1) := by decide +kernel
theorem dX12_isDrilled_9 : decode cX12_isDrilled 9 = .ok (.iload_n 1, 1) := by decide +kernel
theorem dX12_isDrilled_10 : decode cX12_isDrilled 10 = .ok (.iload_n 2, 1) := by decide +kernel
theorem dX12_isDrilled_11 : decode cX12_isDrilled 11 = .ok (.invokevirtual 378, 3) := by decide +kernel
theorem dX12_isDrilled_14 : decode cX12_isDrilled 14 = .ok (.if_icmp .ge 7, 3) := by decide +kernel
theorem dX12_isDrilled_17 : decode cX12_isDrilled 17 = .ok (.iconst 1, 1) := by decide +kernel
theorem dX12_isDrilled_18 : decode cX12_isDrilled 18 = .ok (.goto 4, 3) := by decide +kernel
theorem dX12_isDrilled_21 : decode cX12_isDrilled 21 = .ok (.iconst 0, 1) := by decide +kernel
theorem dX12_isDrilled_22 : decode cX12_isDrilled 22 = .ok (.ireturn, 1) := by decide +kernel
theorem dX12_meltOf_0 : decode cX12_meltOf 0 = .ok (.aload_n 0, 1) := by decide +kernel
theorem dX12_meltOf_1 : decode cX12_meltOf 1 = .ok (.iload_n 1, 1) := by decide +kernel
theorem dX12_meltOf_2 : decode cX12_meltOf 2 = .ok (.iload_n 2, 1) := by decide +kernel
theorem dX12_meltOf_3 : decode cX12_meltOf 3 = .ok (.iconst 1, 1) := by decide +kernel
theorem dX12_meltOf_4 : decode cX12_meltOf 4 = .ok (.iadd, 1) := by decide +kernel
theorem dX12_meltOf_5 : decode cX12_meltOf 5 = .ok (.invokevirtual 378, 3) := by decide +kernel
theorem dX12_meltOf_8 : decode cX12_meltOf 8 = .ok (.istore_n 3, 1) := by decide +kernel
theorem dX12_meltOf_9 : decode cX12_meltOf 9 = .ok (.aload_n 0, 1) := by decide +kernel
theorem dX12_meltOf_10 : decode cX12_meltOf 10 = .ok (.iload_n 1, 1) := by decide +kernel
theorem dX12_meltOf_11 : decode cX12_meltOf 11 = .ok (.iload_n 2, 1) := by decide +kernel
theorem dX12_meltOf_12 : decode cX12_meltOf 12 = .ok (.invokevirtual 384, 3) := by decide +kernel
theorem dX12_meltOf_15 : decode cX12_meltOf 15 = .ok (.ifCond .eq 7, 3) := by decide +kernel
theorem dX12_meltOf_18 : decode cX12_meltOf 18 = .ok (.iload_n 3, 1) := by decide +kernel
theorem dX12_meltOf_19 : decode cX12_meltOf 19 = .ok (.goto 11, 3) := by decide +kernel
theorem dX12_meltOf_22 : decode cX12_meltOf 22 = .ok (.iload_n 3, 1) := by decide +kernel
theorem dX12_meltOf_23 : decode cX12_meltOf 23 = .ok (.aload_n 0, 1) := by decide +kernel
theorem dX12_meltOf_24 : decode cX12_meltOf 24 = .ok (.iload_n 1, 1) := by decide +kernel
theorem dX12_meltOf_25 : decode cX12_meltOf 25 = .ok (.iload_n 2, 1) := by decide +kernel
theorem dX12_meltOf_26 : decode cX12_meltOf 26 = .ok (.invokevirtual 378, 3) := by decide +kernel
theorem dX12_meltOf_29 : decode cX12_meltOf 29 = .ok (.isub, 1) := by decide +kernel
theorem dX12_meltOf_30 : decode cX12_meltOf 30 = .ok (.ireturn, 1) := by decide +kernel
theorem dX12_drillCount_0 : decode cX12_drillCount 0 = .ok (.aload_n 0, 1) := by decide +kernel
theorem dX12_drillCount_1 : decode cX12_drillCount 1 = .ok (.aload_n 0, 1) := by decide +kernel
theorem dX12_drillCount_2 : decode cX12_drillCount 2 = .ok (.iload_n 1, 1) := by decide +kernel
theorem dX12_drillCount_3 : decode cX12_drillCount 3 = .ok (.invokevirtual 366, 3) := by decide +kernel
theorem dX12_drillCount_6 : decode cX12_drillCount 6 = .ok (.invokevirtual 226, 3) := by decide +kernel
theorem dX12_drillCount_9 : decode cX12_drillCount 9 = .ok (.ifCond .eq 5, 3) := by decide +kernel
theorem dX12_drillCount_12 : decode cX12_drillCount 12 = .ok (.iconst 0, 1) := by decide +kernel
theorem dX12_drillCount_13 : decode cX12_drillCount 13 = .ok (.ireturn, 1) := by decide +kernel
theorem dX12_drillCount_14 : decode cX12_drillCount 14 = .ok (.iconst 0, 1) := by decide +kernel
theorem dX12_drillCount_15 : decode cX12_drillCount 15 = .ok (.istore_n 2, 1) := by decide +kernel
theorem dX12_drillCount_16 : decode cX12_drillCount 16 = .ok (.iconst 0, 1) := by decide +kernel
theorem dX12_drillCount_17 : decode cX12_drillCount 17 = .ok (.istore_n 3, 1) := by decide +kernel
theorem dX12_drillCount_18 : decode cX12_drillCount 18 = .ok (.iload_n 3, 1) := by decide +kernel
theorem dX12_drillCount_19 : decode cX12_drillCount 19 = .ok (.iconst 1, 1) := by decide +kernel
theorem dX12_drillCount_20 : decode cX12_drillCount 20 = .ok (.iadd, 1) := by decide +kernel
theorem dX12_drillCount_21 : decode cX12_drillCount 21 = .ok (.aload_n 0, 1) := by decide +kernel
theorem dX12_drillCount_22 : decode cX12_drillCount 22 = .ok (.iload_n 1, 1) := by decide +kernel
theorem dX12_drillCount_23 : decode cX12_drillCount 23 = .ok (.invokevirtual 369, 3) := by decide +kernel
theorem dX12_drillCount_26 : decode cX12_drillCount 26 = .ok (.if_icmp .ge 26, 3) := by decide +kernel
theorem dX12_drillCount_29 : decode cX12_drillCount 29 = .ok (.iload_n 2, 1) := by decide +kernel
theorem dX12_drillCount_30 : decode cX12_drillCount 30 = .ok (.aload_n 0, 1) := by decide +kernel
theorem dX12_drillCount_31 : decode cX12_drillCount 31 = .ok (.iload_n 1, 1) := by decide +kernel
theorem dX12_drillCount_32 : decode cX12_drillCount 32 = .ok (.iload_n 3, 1) := by decide +kernel
theorem dX12_drillCount_33 : decode cX12_drillCount 33 = .ok (.invokevirtual 384, 3) := by decide +kernel
theorem dX12_drillCount_36 : decode cX12_drillCount 36 = .ok (.ifCond .eq 7, 3) := by decide +kernel
theorem dX12_drillCount_39 : decode cX12_drillCount 39 = .ok (.iconst 1, 1) := by decide +kernel
theorem dX12_drillCount_40 : decode cX12_drillCount 40 = .ok (.goto 4, 3) := by decide +kernel
theorem dX12_drillCount_43 : decode cX12_drillCount 43 = .ok (.iconst 0, 1) := by decide +kernel
theorem dX12_drillCount_44 : decode cX12_drillCount 44 = .ok (.iadd, 1) := by decide +kernel
theorem dX12_drillCount_45 : decode cX12_drillCount 45 = .ok (.istore_n 2, 1) := by decide +kernel
theorem dX12_drillCount_46 : decode cX12_drillCount 46 = .ok (.iinc 3 1, 3) := by decide +kernel
theorem dX12_drillCount_49 : decode cX12_drillCount 49 = .ok (.goto (-31), 3) := by decide +kernel
theorem dX12_drillCount_52 : decode cX12_drillCount 52 = .ok (.iload_n 2, 1) := by decide +kernel
theorem dX12_drillCount_53 : decode cX12_drillCount 53 = .ok (.ireturn, 1) := by decide +kernel
theorem dX12_totalTo_0 : decode cX12_totalTo 0 = .ok (.aload_n 0, 1) := by decide +kernel
theorem dX12_totalTo_1 : decode cX12_totalTo 1 = .ok (.iload_n 1, 1) := by decide +kernel
theorem dX12_totalTo_2 : decode cX12_totalTo 2 = .ok (.invokevirtual 369, 3) := by decide +kernel
theorem dX12_totalTo_5 : decode cX12_totalTo 5 = .ok (.ifCond .eq 13, 3) := by decide +kernel
theorem dX12_totalTo_8 : decode cX12_totalTo 8 = .ok (.iload_n 2, 1) := by decide +kernel
theorem dX12_totalTo_9 : decode cX12_totalTo 9 = .ok (.aload_n 0, 1) := by decide +kernel
theorem dX12_totalTo_10 : decode cX12_totalTo 10 = .ok (.iload_n 1, 1) := by decide +kernel
theorem dX12_totalTo_11 : decode cX12_totalTo 11 = .ok (.iconst 0, 1) := by decide +kernel
theorem dX12_totalTo_12 : decode cX12_totalTo 12 = .ok (.invokevirtual 375, 3) := by decide +kernel
theorem dX12_totalTo_15 : decode cX12_totalTo 15 = .ok (.if_icmp .ge 5, 3) := by decide +kernel
theorem dX12_totalTo_18 : decode cX12_totalTo 18 = .ok (.iconst (-1), 1) := by decide +kernel
theorem dX12_totalTo_19 : decode cX12_totalTo 19 = .ok (.ireturn, 1) := by decide +kernel
theorem dX12_totalTo_20 : decode cX12_totalTo 20 = .ok (.iconst 0, 1) := by decide +kernel
theorem dX12_totalTo_21 : decode cX12_totalTo 21 = .ok (.istore_n 3, 1) := by decide +kernel
theorem dX12_totalTo_22 : decode cX12_totalTo 22 = .ok (.iconst 0, 1) := by decide +kernel
theorem dX12_totalTo_23 : decode cX12_totalTo 23 = .ok (.istore 4, 2) := by decide +kernel
theorem dX12_totalTo_25 : decode cX12_totalTo 25 = .ok (.iload 4, 2) := by decide +kernel
theorem dX12_totalTo_27 : decode cX12_totalTo 27 = .ok (.iconst 1, 1) := by decide +kernel
theorem dX12_totalTo_28 : decode cX12_totalTo 28 = .ok (.iadd, 1) := by decide +kernel
theorem dX12_totalTo_29 : decode cX12_totalTo 29 = .ok (.aload_n 0, 1) := by decide +kernel
theorem dX12_totalTo_30 : decode cX12_totalTo 30 = .ok (.iload_n 1, 1) := by decide +kernel
theorem dX12_totalTo_31 : decode cX12_totalTo 31 = .ok (.invokevirtual 369, 3) := by decide +kernel
theorem dX12_totalTo_34 : decode cX12_totalTo 34 = .ok (.if_icmp .ge 77, 3) := by decide +kernel
theorem dX12_totalTo_37 : decode cX12_totalTo 37 = .ok (.aload_n 0, 1) := by decide +kernel
theorem dX12_totalTo_38 : decode cX12_totalTo 38 = .ok (.iload_n 1, 1) := by decide +kernel
theorem dX12_totalTo_39 : decode cX12_totalTo 39 = .ok (.iload 4, 2) := by decide +kernel
theorem dX12_totalTo_41 : decode cX12_totalTo 41 = .ok (.invokevirtual 375, 3) := by decide +kernel
theorem dX12_totalTo_44 : decode cX12_totalTo 44 = .ok (.istore 5, 2) := by decide +kernel
theorem dX12_totalTo_46 : decode cX12_totalTo 46 = .ok (.aload_n 0, 1) := by decide +kernel
theorem dX12_totalTo_47 : decode cX12_totalTo 47 = .ok (.iload_n 1, 1) := by decide +kernel
theorem dX12_totalTo_48 : decode cX12_totalTo 48 = .ok (.iload 4, 2) := by decide +kernel
theorem dX12_totalTo_50 : decode cX12_totalTo 50 = .ok (.iconst 1, 1) := by decide +kernel
theorem dX12_totalTo_51 : decode cX12_totalTo 51 = .ok (.iadd, 1) := by decide +kernel
theorem dX12_totalTo_52 : decode cX12_totalTo 52 = .ok (.invokevirtual 375, 3) := by decide +kernel
theorem dX12_totalTo_55 : decode cX12_totalTo 55 = .ok (.istore 6, 2) := by decide +kernel
theorem dX12_totalTo_57 : decode cX12_totalTo 57 = .ok (.iload_n 2, 1) := by decide +kernel
theorem dX12_totalTo_58 : decode cX12_totalTo 58 = .ok (.iload 6, 2) := by decide +kernel
theorem dX12_totalTo_60 : decode cX12_totalTo 60 = .ok (.if_icmp .ge 32, 3) := by decide +kernel
theorem dX12_totalTo_63 : decode cX12_totalTo 63 = .ok (.iload_n 3, 1) := by decide +kernel
theorem dX12_totalTo_64 : decode cX12_totalTo 64 = .ok (.ldc2_w 387, 3) := by decide +kernel
theorem dX12_totalTo_67 : decode cX12_totalTo 67 = .ok (.aload_n 0, 1) := by decide +kernel
theorem dX12_totalTo_68 : decode cX12_totalTo 68 = .ok (.iload_n 1, 1) := by decide +kernel
theorem dX12_totalTo_69 : decode cX12_totalTo 69 = .ok (.iload 4, 2) := by decide +kernel
theorem dX12_totalTo_71 : decode cX12_totalTo 71 = .ok (.invokevirtual 389, 3) := by decide +kernel
theorem dX12_totalTo_74 : decode cX12_totalTo 74 = .ok (.i2l, 1) := by decide +kernel
theorem dX12_totalTo_75 : decode cX12_totalTo 75 = .ok (.lmul, 1) := by decide +kernel
theorem dX12_totalTo_76 : decode cX12_totalTo 76 = .ok (.iload_n 2, 1) := by decide +kernel
theorem dX12_totalTo_77 : decode cX12_totalTo 77 = .ok (.iload 5, 2) := by decide +kernel
theorem dX12_totalTo_79 : decode cX12_totalTo 79 = .ok (.isub, 1) := by decide +kernel
theorem dX12_totalTo_80 : decode cX12_totalTo 80 = .ok (.i2l, 1) := by decide +kernel
theorem dX12_totalTo_81 : decode cX12_totalTo 81 = .ok (.lmul, 1) := by decide +kernel
theorem dX12_totalTo_82 : decode cX12_totalTo 82 = .ok (.iload 6, 2) := by decide +kernel
theorem dX12_totalTo_84 : decode cX12_totalTo 84 = .ok (.iload 5, 2) := by decide +kernel
theorem dX12_totalTo_86 : decode cX12_totalTo 86 = .ok (.isub, 1) := by decide +kernel
theorem dX12_totalTo_87 : decode cX12_totalTo 87 = .ok (.i2l, 1) := by decide +kernel
theorem dX12_totalTo_88 : decode cX12_totalTo 88 = .ok (.ldiv, 1) := by decide +kernel
theorem dX12_totalTo_89 : decode cX12_totalTo 89 = .ok (.l2i, 1) := by decide +kernel
theorem dX12_totalTo_90 : decode cX12_totalTo 90 = .ok (.iadd, 1) := by decide +kernel
theorem dX12_totalTo_91 : decode cX12_totalTo 91 = .ok (.ireturn, 1) := by decide +kernel
theorem dX12_totalTo_92 : decode cX12_totalTo 92 = .ok (.iload_n 3, 1) := by decide +kernel
theorem dX12_totalTo_93 : decode cX12_totalTo 93 = .ok (.bipush 100, 2) := by decide +kernel
theorem dX12_totalTo_95 : decode cX12_totalTo 95 = .ok (.aload_n 0, 1) := by decide +kernel
theorem dX12_totalTo_96 : decode cX12_totalTo 96 = .ok (.iload_n 1, 1) := by decide +kernel
theorem dX12_totalTo_97 : decode cX12_totalTo 97 = .ok (.iload 4, 2) := by decide +kernel
theorem dX12_totalTo_99 : decode cX12_totalTo 99 = .ok (.invokevirtual 389, 3) := by decide +kernel
theorem dX12_totalTo_102 : decode cX12_totalTo 102 = .ok (.imul, 1) := by decide +kernel
theorem dX12_totalTo_103 : decode cX12_totalTo 103 = .ok (.iadd, 1) := by decide +kernel
theorem dX12_totalTo_104 : decode cX12_totalTo 104 = .ok (.istore_n 3, 1) := by decide +kernel
theorem dX12_totalTo_105 : decode cX12_totalTo 105 = .ok (.iinc 4 1, 3) := by decide +kernel
theorem dX12_totalTo_108 : decode cX12_totalTo 108 = .ok (.goto (-83), 3) := by decide +kernel
theorem dX12_totalTo_111 : decode cX12_totalTo 111 = .ok (.iload_n 2, 1) := by decide +kernel
theorem dX12_totalTo_112 : decode cX12_totalTo 112 = .ok (.aload_n 0, 1) := by decide +kernel
theorem dX12_totalTo_113 : decode cX12_totalTo 113 = .ok (.iload_n 1, 1) := by decide +kernel
theorem dX12_totalTo_114 : decode cX12_totalTo 114 = .ok (.aload_n 0, 1) := by decide +kernel
theorem dX12_totalTo_115 : decode cX12_totalTo 115 = .ok (.iload_n 1, 1) := by decide +kernel
theorem dX12_totalTo_116 : decode cX12_totalTo 116 = .ok (.invokevirtual 369, 3) := by decide +kernel
theorem dX12_totalTo_119 : decode cX12_totalTo 119 = .ok (.iconst 1, 1) := by decide +kernel
theorem dX12_totalTo_120 : decode cX12_totalTo 120 = .ok (.isub, 1) := by decide +kernel
theorem dX12_totalTo_121 : decode cX12_totalTo 121 = .ok (.invokevirtual 375, 3) := by decide +kernel
theorem dX12_totalTo_124 : decode cX12_totalTo 124 = .ok (.if_icmp .ne 7, 3) := by decide +kernel
theorem dX12_totalTo_127 : decode cX12_totalTo 127 = .ok (.iload_n 3, 1) := by decide +kernel
theorem dX12_totalTo_128 : decode cX12_totalTo 128 = .ok (.goto 4, 3) := by decide +kernel
theorem dX12_totalTo_131 : decode cX12_totalTo 131 = .ok (.iconst (-1), 1) := by decide +kernel
theorem dX12_totalTo_132 : decode cX12_totalTo 132 = .ok (.ireturn, 1) := by decide +kernel
theorem dX12_meltTo_0 : decode cX12_meltTo 0 = .ok (.aload_n 0, 1) := by decide +kernel
theorem dX12_meltTo_1 : decode cX12_meltTo 1 = .ok (.aload_n 0, 1) := by decide +kernel
theorem dX12_meltTo_2 : decode cX12_meltTo 2 = .ok (.iload_n 1, 1) := by decide +kernel
theorem dX12_meltTo_3 : decode cX12_meltTo 3 = .ok (.invokevirtual 366, 3) := by decide +kernel
theorem dX12_meltTo_6 : decode cX12_meltTo 6 = .ok (.invokevirtual 226, 3) := by decide +kernel
theorem dX12_meltTo_9 : decode cX12_meltTo 9 = .ok (.ifCond .eq 7, 3) := by decide +kernel
theorem dX12_meltTo_12 : decode cX12_meltTo 12 = .ok (.iconst 0, 1) := by decide +kernel
theorem dX12_meltTo_13 : decode cX12_meltTo 13 = .ok (.goto 9, 3) := by decide +kernel
theorem dX12_meltTo_16 : decode cX12_meltTo 16 = .ok (.aload_n 0, 1) := by decide +kernel
theorem dX12_meltTo_17 : decode cX12_meltTo 17 = .ok (.iload_n 1, 1) := by decide +kernel
theorem dX12_meltTo_18 : decode cX12_meltTo 18 = .ok (.iload_n 2, 1) := by decide +kernel
theorem dX12_meltTo_19 : decode cX12_meltTo 19 = .ok (.invokevirtual 392, 3) := by decide +kernel
theorem dX12_meltTo_22 : decode cX12_meltTo 22 = .ok (.ireturn, 1) := by decide +kernel
theorem dX12_meltBetween_0 : decode cX12_meltBetween 0 = .ok (.aload_n 0, 1) := by decide +kernel
theorem dX12_meltBetween_1 : decode cX12_meltBetween 1 = .ok (.iload_n 1, 1) := by decide +kernel
theorem dX12_meltBetween_2 : decode cX12_meltBetween 2 = .ok (.iload_n 2, 1) := by decide +kernel
theorem dX12_meltBetween_3 : decode cX12_meltBetween 3 = .ok (.invokevirtual 392, 3) := by decide +kernel
theorem dX12_meltBetween_6 : decode cX12_meltBetween 6 = .ok (.istore 4, 2) := by decide +kernel
theorem dX12_meltBetween_8 : decode cX12_meltBetween 8 = .ok (.aload_n 0, 1) := by decide +kernel
theorem dX12_meltBetween_9 : decode cX12_meltBetween 9 = .ok (.iload_n 1, 1) := by decide +kernel
theorem dX12_meltBetween_10 : decode cX12_meltBetween 10 = .ok (.iload_n 3, 1) := by decide +kernel
theorem dX12_meltBetween_11 : decode cX12_meltBetween 11 = .ok (.invokevirtual 392, 3) := by decide +kernel
theorem dX12_meltBetween_14 : decode cX12_meltBetween 14 = .ok (.istore 5, 2) := by decide +kernel
theorem dX12_meltBetween_16 : decode cX12_meltBetween 16 = .ok (.iload 4, 2) := by decide +kernel
theorem dX12_meltBetween_18 : decode cX12_meltBetween 18 = .ok (.ifCond .lt 8, 3) := by decide +kernel
theorem dX12_meltBetween_21 : decode cX12_meltBetween 21 = .ok (.iload 5, 2) := by decide +kernel
theorem dX12_meltBetween_23 : decode cX12_meltBetween 23 = .ok (.ifCond .ge 7, 3) := by decide +kernel
theorem dX12_meltBetween_26 : decode cX12_meltBetween 26 = .ok (.iconst (-1), 1) := by decide +kernel
theorem dX12_meltBetween_27 : decode cX12_meltBetween 27 = .ok (.goto 8, 3) := by decide +kernel
theorem dX12_meltBetween_30 : decode cX12_meltBetween 30 = .ok (.iload 5, 2) := by decide +kernel
theorem dX12_meltBetween_32 : decode cX12_meltBetween 32 = .ok (.iload 4, 2) := by decide +kernel
theorem dX12_meltBetween_34 : decode cX12_meltBetween 34 = .ok (.isub, 1) := by decide +kernel
theorem dX12_meltBetween_35 : decode cX12_meltBetween 35 = .ok (.ireturn, 1) := by decide +kernel
theorem dX12_melt_0 : decode cX12_melt 0 = .ok (.aload_n 0, 1) := by decide +kernel
theorem dX12_melt_1 : decode cX12_melt 1 = .ok (.aload_n 0, 1) := by decide +kernel
theorem dX12_melt_2 : decode cX12_melt 2 = .ok (.iload_n 1, 1) := by decide +kernel
theorem dX12_melt_3 : decode cX12_melt 3 = .ok (.invokevirtual 366, 3) := by decide +kernel
theorem dX12_melt_6 : decode cX12_melt 6 = .ok (.invokevirtual 226, 3) := by decide +kernel
theorem dX12_melt_9 : decode cX12_melt 9 = .ok (.ifCond .eq 5, 3) := by decide +kernel
theorem dX12_melt_12 : decode cX12_melt 12 = .ok (.iconst 0, 1) := by decide +kernel
theorem dX12_melt_13 : decode cX12_melt 13 = .ok (.ireturn, 1) := by decide +kernel
theorem dX12_melt_14 : decode cX12_melt 14 = .ok (.iload_n 2, 1) := by decide +kernel
theorem dX12_melt_15 : decode cX12_melt 15 = .ok (.iload_n 3, 1) := by decide +kernel
theorem dX12_melt_16 : decode cX12_melt 16 = .ok (.if_icmp .le 8, 3) := by decide +kernel
theorem dX12_melt_19 : decode cX12_melt 19 = .ok (.bipush (-2), 2) := by decide +kernel
theorem dX12_melt_21 : decode cX12_melt 21 = .ok (.goto 10, 3) := by decide +kernel
theorem dX12_melt_24 : decode cX12_melt 24 = .ok (.aload_n 0, 1) := by decide +kernel
theorem dX12_melt_25 : decode cX12_melt 25 = .ok (.iload_n 1, 1) := by decide +kernel
theorem dX12_melt_26 : decode cX12_melt 26 = .ok (.iload_n 2, 1) := by decide +kernel
theorem dX12_melt_27 : decode cX12_melt 27 = .ok (.iload_n 3, 1) := by decide +kernel
theorem dX12_melt_28 : decode cX12_melt 28 = .ok (.invokevirtual 395, 3) := by decide +kernel
theorem dX12_melt_31 : decode cX12_melt 31 = .ok (.ireturn, 1) := by decide +kernel
theorem dX12_meanMelt_0 : decode cX12_meanMelt 0 = .ok (.aload_n 0, 1) := by decide +kernel
theorem dX12_meanMelt_1 : decode cX12_meanMelt 1 = .ok (.iconst 0, 1) := by decide +kernel
theorem dX12_meanMelt_2 : decode cX12_meanMelt 2 = .ok (.putfield 83, 3) := by decide +kernel
theorem dX12_meanMelt_5 : decode cX12_meanMelt 5 = .ok (.iload_n 1, 1) := by decide +kernel
theorem dX12_meanMelt_6 : decode cX12_meanMelt 6 = .ok (.iload_n 2, 1) := by decide +kernel
theorem dX12_meanMelt_7 : decode cX12_meanMelt 7 = .ok (.if_icmp .le 6, 3) := by decide +kernel
theorem dX12_meanMelt_10 : decode cX12_meanMelt 10 = .ok (.bipush (-2), 2) := by decide +kernel
theorem dX12_meanMelt_12 : decode cX12_meanMelt 12 = .ok (.ireturn, 1) := by decide +kernel
theorem dX12_meanMelt_13 : decode cX12_meanMelt 13 = .ok (.iconst 0, 1) := by decide +kernel
theorem dX12_meanMelt_14 : decode cX12_meanMelt 14 = .ok (.istore_n 3, 1) := by decide +kernel
theorem dX12_meanMelt_15 : decode cX12_meanMelt 15 = .ok (.iconst 0, 1) := by decide +kernel
theorem dX12_meanMelt_16 : decode cX12_meanMelt 16 = .ok (.istore 4, 2) := by decide +kernel
theorem dX12_meanMelt_18 : decode cX12_meanMelt 18 = .ok (.iconst 0, 1) := by decide +kernel
theorem dX12_meanMelt_19 : decode cX12_meanMelt 19 = .ok (.istore 5, 2) := by decide +kernel
theorem dX12_meanMelt_21 : decode cX12_meanMelt 21 = .ok (.iload 5, 2) := by decide +kernel
theorem dX12_meanMelt_23 : decode cX12_meanMelt 23 = .ok (.aload_n 0, 1) := by decide +kernel
theorem dX12_meanMelt_24 : decode cX12_meanMelt 24 = .ok (.getfield 7, 3) := by decide +kernel
theorem dX12_meanMelt_27 : decode cX12_meanMelt 27 = .ok (.iconst 5, 1) := by decide +kernel
theorem dX12_meanMelt_28 : decode cX12_meanMelt 28 = .ok (.iaload, 1) := by decide +kernel
theorem dX12_meanMelt_29 : decode cX12_meanMelt 29 = .ok (.if_icmp .ge 37, 3) := by decide +kernel
theorem dX12_meanMelt_32 : decode cX12_meanMelt 32 = .ok (.aload_n 0, 1) := by decide +kernel
theorem dX12_meanMelt_33 : decode cX12_meanMelt 33 = .ok (.iload 5, 2) := by decide +kernel
theorem dX12_meanMelt_35 : decode cX12_meanMelt 35 = .ok (.iload_n 1, 1) := by decide +kernel
theorem dX12_meanMelt_36 : decode cX12_meanMelt 36 = .ok (.iload_n 2, 1) := by decide +kernel
theorem dX12_meanMelt_37 : decode cX12_meanMelt 37 = .ok (.invokevirtual 395, 3) := by decide +kernel
theorem dX12_meanMelt_40 : decode cX12_meanMelt 40 = .ok (.istore 6, 2) := by decide +kernel
theorem dX12_meanMelt_42 : decode cX12_meanMelt 42 = .ok (.iload 6, 2) := by decide +kernel
theorem dX12_meanMelt_44 : decode cX12_meanMelt 44 = .ok (.ifCond .ge 6, 3) := by decide +kernel
theorem dX12_meanMelt_47 : decode cX12_meanMelt 47 = .ok (.goto 13, 3) := by decide +kernel
theorem dX12_meanMelt_50 : decode cX12_meanMelt 50 = .ok (.iinc 3 1, 3) := by decide +kernel
theorem dX12_meanMelt_53 : decode cX12_meanMelt 53 = .ok (.iload 4, 2) := by decide +kernel
theorem dX12_meanMelt_55 : decode cX12_meanMelt 55 = .ok (.iload 6, 2) := by decide +kernel
theorem dX12_meanMelt_57 : decode cX12_meanMelt 57 = .ok (.iadd, 1) := by decide +kernel
theorem dX12_meanMelt_58 : decode cX12_meanMelt 58 = .ok (.istore 4, 2) := by decide +kernel
theorem dX12_meanMelt_60 : decode cX12_meanMelt 60 = .ok (.iinc 5 1, 3) := by decide +kernel
theorem dX12_meanMelt_63 : decode cX12_meanMelt 63 = .ok (.goto (-42), 3) := by decide +kernel
theorem dX12_meanMelt_66 : decode cX12_meanMelt 66 = .ok (.iload_n 3, 1) := by decide +kernel
theorem dX12_meanMelt_67 : decode cX12_meanMelt 67 = .ok (.ifCond .ne 7, 3) := by decide +kernel
theorem dX12_meanMelt_70 : decode cX12_meanMelt 70 = .ok (.iconst (-1), 1) := by decide +kernel
theorem dX12_meanMelt_71 : decode cX12_meanMelt 71 = .ok (.goto 7, 3) := by decide +kernel
theorem dX12_meanMelt_74 : decode cX12_meanMelt 74 = .ok (.iload 4, 2) := by decide +kernel
theorem dX12_meanMelt_76 : decode cX12_meanMelt 76 = .ok (.iload_n 3, 1) := by decide +kernel
theorem dX12_meanMelt_77 : decode cX12_meanMelt 77 = .ok (.idiv, 1) := by decide +kernel
theorem dX12_meanMelt_78 : decode cX12_meanMelt 78 = .ok (.ireturn, 1) := by decide +kernel
theorem dX12_warmestInterval_0 : decode cX12_warmestInterval 0 = .ok (.aload_n 0, 1) := by decide +kernel
theorem dX12_warmestInterval_1 : decode cX12_warmestInterval 1 = .ok (.aload_n 0, 1) := by decide +kernel
theorem dX12_warmestInterval_2 : decode cX12_warmestInterval 2 = .ok (.iload_n 1, 1) := by decide +kernel
theorem dX12_warmestInterval_3 : decode cX12_warmestInterval 3 = .ok (.invokevirtual 366, 3) := by decide +kernel
theorem dX12_warmestInterval_6 : decode cX12_warmestInterval 6 = .ok (.invokevirtual 226, 3) := by decide +kernel
theorem dX12_warmestInterval_9 : decode cX12_warmestInterval 9 = .ok (.ifCond .eq 5, 3) := by decide +kernel
theorem dX12_warmestInterval_12 : decode cX12_warmestInterval 12 = .ok (.iconst 0, 1) := by decide +kernel
theorem dX12_warmestInterval_13 : decode cX12_warmestInterval 13 = .ok (.ireturn, 1) := by decide +kernel
theorem dX12_warmestInterval_14 : decode cX12_warmestInterval 14 = .ok (.iconst (-1), 1) := by decide +kernel
theorem dX12_warmestInterval_15 : decode cX12_warmestInterval 15 = .ok (.istore_n 2, 1) := by decide +kernel
theorem dX12_warmestInterval_16 : decode cX12_warmestInterval 16 = .ok (.iconst 0, 1) := by decide +kernel
theorem dX12_warmestInterval_17 : decode cX12_warmestInterval 17 = .ok (.istore_n 3, 1) := by decide +kernel
theorem dX12_warmestInterval_18 : decode cX12_warmestInterval 18 = .ok (.iload_n 3, 1) := by decide +kernel
theorem dX12_warmestInterval_19 : decode cX12_warmestInterval 19 = .ok (.iconst 1, 1) := by decide +kernel
theorem dX12_warmestInterval_20 : decode cX12_warmestInterval 20 = .ok (.iadd, 1) := by decide +kernel
theorem dX12_warmestInterval_21 : decode cX12_warmestInterval 21 = .ok (.aload_n 0, 1) := by decide +kernel
theorem dX12_warmestInterval_22 : decode cX12_warmestInterval 22 = .ok (.iload_n 1, 1) := by decide +kernel
theorem dX12_warmestInterval_23 : decode cX12_warmestInterval 23 = .ok (.invokevirtual 369, 3) := by decide +kernel
theorem dX12_warmestInterval_26 : decode cX12_warmestInterval 26 = .ok (.if_icmp .ge 49, 3) := by decide +kernel
theorem dX12_warmestInterval_29 : decode cX12_warmestInterval 29 = .ok (.iload_n 2, 1) := by decide +kernel
theorem dX12_warmestInterval_30 : decode cX12_warmestInterval 30 = .ok (.ifCond .lt 37, 3) := by decide +kernel
theorem dX12_warmestInterval_33 : decode cX12_warmestInterval 33 = .ok (.aload_n 0, 1) := by decide +kernel
theorem dX12_warmestInterval_34 : decode cX12_warmestInterval 34 = .ok (.iload_n 1, 1) := by decide +kernel
theorem dX12_warmestInterval_35 : decode cX12_warmestInterval 35 = .ok (.iload_n 3, 1) := by decide +kernel
theorem dX12_warmestInterval_36 : decode cX12_warmestInterval 36 = .ok (.invokevirtual 389, 3) := by decide +kernel
theorem dX12_warmestInterval_39 : decode cX12_warmestInterval 39 = .ok (.i2l, 1) := by decide +kernel
theorem dX12_warmestInterval_40 : decode cX12_warmestInterval 40 = .ok (.aload_n 0, 1) := by decide +kernel
theorem dX12_warmestInterval_41 : decode cX12_warmestInterval 41 = .ok (.iload_n 1, 1) := by decide +kernel
theorem dX12_warmestInterval_42 : decode cX12_warmestInterval 42 = .ok (.iload_n 2, 1) := by decide +kernel
theorem dX12_warmestInterval_43 : decode cX12_warmestInterval 43 = .ok (.invokevirtual 398, 3) := by decide +kernel
theorem dX12_warmestInterval_46 : decode cX12_warmestInterval 46 = .ok (.i2l, 1) := by decide +kernel
theorem dX12_warmestInterval_47 : decode cX12_warmestInterval 47 = .ok (.lmul, 1) := by decide +kernel
theorem dX12_warmestInterval_48 : decode cX12_warmestInterval 48 = .ok (.aload_n 0, 1) := by decide +kernel
theorem dX12_warmestInterval_49 : decode cX12_warmestInterval 49 = .ok (.iload_n 1, 1) := by decide +kernel
theorem dX12_warmestInterval_50 : decode cX12_warmestInterval 50 = .ok (.iload_n 2, 1) := by decide +kernel
theorem dX12_warmestInterval_51 : decode cX12_warmestInterval 51 = .ok (.invokevirtual 389, 3) := by decide +kernel
theorem dX12_warmestInterval_54 : decode cX12_warmestInterval 54 = .ok (.i2l, 1) := by decide +kernel
theorem dX12_warmestInterval_55 : decode cX12_warmestInterval 55 = .ok (.aload_n 0, 1) := by decide +kernel
theorem dX12_warmestInterval_56 : decode cX12_warmestInterval 56 = .ok (.iload_n 1, 1) := by decide +kernel
theorem dX12_warmestInterval_57 : decode cX12_warmestInterval 57 = .ok (.iload_n 3, 1) := by decide +kernel
theorem dX12_warmestInterval_58 : decode cX12_warmestInterval 58 = .ok (.invokevirtual 398, 3) := by decide +kernel
theorem dX12_warmestInterval_61 : decode cX12_warmestInterval 61 = .ok (.i2l, 1) := by decide +kernel
theorem dX12_warmestInterval_62 : decode cX12_warmestInterval 62 = .ok (.lmul, 1) := by decide +kernel
theorem dX12_warmestInterval_63 : decode cX12_warmestInterval 63 = .ok (.lcmp, 1) := by decide +kernel
theorem dX12_warmestInterval_64 : decode cX12_warmestInterval 64 = .ok (.ifCond .le 5, 3) := by decide +kernel
theorem dX12_warmestInterval_67 : decode cX12_warmestInterval 67 = .ok (.iload_n 3, 1) := by decide +kernel
theorem dX12_warmestInterval_68 : decode cX12_warmestInterval 68 = .ok (.istore_n 2, 1) := by decide +kernel
theorem dX12_warmestInterval_69 : decode cX12_warmestInterval 69 = .ok (.iinc 3 1, 3) := by decide +kernel
theorem dX12_warmestInterval_72 : decode cX12_warmestInterval 72 = .ok (.goto (-54), 3) := by decide +kernel
theorem dX12_warmestInterval_75 : decode cX12_warmestInterval 75 = .ok (.iload_n 2, 1) := by decide +kernel
theorem dX12_warmestInterval_76 : decode cX12_warmestInterval 76 = .ok (.ireturn, 1) := by decide +kernel
theorem dX12_daysOf_0 : decode cX12_daysOf 0 = .ok (.aload_n 0, 1) := by decide +kernel
theorem dX12_daysOf_1 : decode cX12_daysOf 1 = .ok (.iload_n 1, 1) := by decide +kernel
theorem dX12_daysOf_2 : decode cX12_daysOf 2 = .ok (.iload_n 2, 1) := by decide +kernel
theorem dX12_daysOf_3 : decode cX12_daysOf 3 = .ok (.iconst 1, 1) := by decide +kernel
theorem dX12_daysOf_4 : decode cX12_daysOf 4 = .ok (.iadd, 1) := by decide +kernel
theorem dX12_daysOf_5 : decode cX12_daysOf 5 = .ok (.invokevirtual 375, 3) := by decide +kernel
theorem dX12_daysOf_8 : decode cX12_daysOf 8 = .ok (.aload_n 0, 1) := by decide +kernel
theorem dX12_daysOf_9 : decode cX12_daysOf 9 = .ok (.iload_n 1, 1) := by decide +kernel
theorem dX12_daysOf_10 : decode cX12_daysOf 10 = .ok (.iload_n 2, 1) := by decide +kernel
theorem dX12_daysOf_11 : decode cX12_daysOf 11 = .ok (.invokevirtual 375, 3) := by decide +kernel
theorem dX12_daysOf_14 : decode cX12_daysOf 14 = .ok (.isub, 1) := by decide +kernel
theorem dX12_daysOf_15 : decode cX12_daysOf 15 = .ok (.ireturn, 1) := by decide +kernel
theorem dX12_registeredAt_0 : decode cX12_registeredAt 0 = .ok (.iload_n 2, 1) := by decide +kernel
theorem dX12_registeredAt_1 : decode cX12_registeredAt 1 = .ok (.aload_n 0, 1) := by decide +kernel
theorem dX12_registeredAt_2 : decode cX12_registeredAt 2 = .ok (.getfield 31, 3) := by decide +kernel
theorem dX12_registeredAt_5 : decode cX12_registeredAt 5 = .ok (.iload_n 1, 1) := by decide +kernel
theorem dX12_registeredAt_6 : decode cX12_registeredAt 6 = .ok (.iaload, 1) := by decide +kernel
theorem dX12_registeredAt_7 : decode cX12_registeredAt 7 = .ok (.iadd, 1) := by decide +kernel
theorem dX12_registeredAt_8 : decode cX12_registeredAt 8 = .ok (.istore 4, 2) := by decide +kernel
theorem dX12_registeredAt_10 : decode cX12_registeredAt 10 = .ok (.iload_n 3, 1) := by decide +kernel
theorem dX12_registeredAt_11 : decode cX12_registeredAt 11 = .ok (.aload_n 0, 1) := by decide +kernel
theorem dX12_registeredAt_12 : decode cX12_registeredAt 12 = .ok (.getfield 34, 3) := by decide +kernel
theorem dX12_registeredAt_15 : decode cX12_registeredAt 15 = .ok (.iload_n 1, 1) := by decide +kernel
theorem dX12_registeredAt_16 : decode cX12_registeredAt 16 = .ok (.iaload, 1) := by decide +kernel
theorem dX12_registeredAt_17 : decode cX12_registeredAt 17 = .ok (.iadd, 1) := by decide +kernel
theorem dX12_registeredAt_18 : decode cX12_registeredAt 18 = .ok (.istore 5, 2) := by decide +kernel
theorem dX12_registeredAt_20 : decode cX12_registeredAt 20 = .ok (.aload_n 0, 1) := by decide +kernel
theorem dX12_registeredAt_21 : decode cX12_registeredAt 21 = .ok (.getfield 27, 3) := by decide +kernel
theorem dX12_registeredAt_24 : decode cX12_registeredAt 24 = .ok (.iload_n 1, 1) := by decide +kernel
theorem dX12_registeredAt_25 : decode cX12_registeredAt 25 = .ok (.baload, 1) := by decide +kernel
theorem dX12_registeredAt_26 : decode cX12_registeredAt 26 = .ok (.ifCond .eq 26, 3) := by decide +kernel
theorem dX12_registeredAt_29 : decode cX12_registeredAt 29 = .ok (.aload_n 0, 1) := by decide +kernel
theorem dX12_registeredAt_30 : decode cX12_registeredAt 30 = .ok (.iload 4, 2) := by decide +kernel
theorem dX12_registeredAt_32 : decode cX12_registeredAt 32 = .ok (.iload 5, 2) := by decide +kernel
theorem dX12_registeredAt_34 : decode cX12_registeredAt 34 = .ok (.invokevirtual 233, 3) := by decide +kernel
theorem dX12_registeredAt_37 : decode cX12_registeredAt 37 = .ok (.ifCond .eq 15, 3) := by decide +kernel
theorem dX12_registeredAt_40 : decode cX12_registeredAt 40 = .ok (.aload_n 0, 1) := by decide +kernel
theorem dX12_registeredAt_41 : decode cX12_registeredAt 41 = .ok (.iload_n 1, 1) := by decide +kernel
theorem dX12_registeredAt_42 : decode cX12_registeredAt 42 = .ok (.iload 4, 2) := by decide +kernel
theorem dX12_registeredAt_44 : decode cX12_registeredAt 44 = .ok (.iload 5, 2) := by decide +kernel
theorem dX12_registeredAt_46 : decode cX12_registeredAt 46 = .ok (.invokevirtual 237, 3) := by decide +kernel
theorem dX12_registeredAt_49 : decode cX12_registeredAt 49 = .ok (.goto 4, 3) := by decide +kernel
theorem dX12_registeredAt_52 : decode cX12_registeredAt 52 = .ok (.iconst (-1), 1) := by decide +kernel
theorem dX12_registeredAt_53 : decode cX12_registeredAt 53 = .ok (.ireturn, 1) := by decide +kernel
theorem dX12_registered_0 : decode cX12_registered 0 = .ok (.aload_n 0, 1) := by decide +kernel
theorem dX12_registered_1 : decode cX12_registered 1 = .ok (.invokevirtual 272, 3) := by decide +kernel
theorem dX12_registered_4 : decode cX12_registered 4 = .ok (.aload_n 0, 1) := by decide +kernel
theorem dX12_registered_5 : decode cX12_registered 5 = .ok (.aload_n 0, 1) := by decide +kernel
theorem dX12_registered_6 : decode cX12_registered 6 = .ok (.iload_n 1, 1) := by decide +kernel
theorem dX12_registered_7 : decode cX12_registered 7 = .ok (.invokevirtual 222, 3) := by decide +kernel
theorem dX12_registered_10 : decode cX12_registered 10 = .ok (.ifCond .eq 16, 3) := by decide +kernel
theorem dX12_registered_13 : decode cX12_registered 13 = .ok (.aload_n 0, 1) := by decide +kernel
theorem dX12_registered_14 : decode cX12_registered 14 = .ok (.iload_n 2, 1) := by decide +kernel
theorem dX12_registered_15 : decode cX12_registered 15 = .ok (.iload_n 3, 1) := by decide +kernel
theorem dX12_registered_16 : decode cX12_registered 16 = .ok (.invokevirtual 233, 3) := by decide +kernel
theorem dX12_registered_19 : decode cX12_registered 19 = .ok (.ifCond .eq 7, 3) := by decide +kernel
theorem dX12_registered_22 : decode cX12_registered 22 = .ok (.iconst 1, 1) := by decide +kernel
theorem dX12_registered_23 : decode cX12_registered 23 = .ok (.goto 4, 3) := by decide +kernel
theorem dX12_registered_26 : decode cX12_registered 26 = .ok (.iconst 0, 1) := by decide +kernel
theorem dX12_registered_27 : decode cX12_registered 27 = .ok (.invokevirtual 226, 3) := by decide +kernel
theorem dX12_registered_30 : decode cX12_registered 30 = .ok (.ifCond .eq 7, 3) := by decide +kernel
theorem dX12_registered_33 : decode cX12_registered 33 = .ok (.iconst 0, 1) := by decide +kernel
theorem dX12_registered_34 : decode cX12_registered 34 = .ok (.goto 10, 3) := by decide +kernel
theorem dX12_registered_37 : decode cX12_registered 37 = .ok (.aload_n 0, 1) := by decide +kernel
theorem dX12_registered_38 : decode cX12_registered 38 = .ok (.iload_n 1, 1) := by decide +kernel
theorem dX12_registered_39 : decode cX12_registered 39 = .ok (.iload_n 2, 1) := by decide +kernel
theorem dX12_registered_40 : decode cX12_registered 40 = .ok (.iload_n 3, 1) := by decide +kernel
theorem dX12_registered_41 : decode cX12_registered 41 = .ok (.invokevirtual 401, 3) := by decide +kernel
theorem dX12_registered_44 : decode cX12_registered 44 = .ok (.ireturn, 1) := by decide +kernel
theorem dX12_changedPixels_0 : decode cX12_changedPixels 0 = .ok (.aload_n 0, 1) := by decide +kernel
theorem dX12_changedPixels_1 : decode cX12_changedPixels 1 = .ok (.invokevirtual 272, 3) := by decide +kernel
theorem dX12_changedPixels_4 : decode cX12_changedPixels 4 = .ok (.aload_n 0, 1) := by decide +kernel
theorem dX12_changedPixels_5 : decode cX12_changedPixels 5 = .ok (.aload_n 0, 1) := by decide +kernel
theorem dX12_changedPixels_6 : decode cX12_changedPixels 6 = .ok (.iload_n 1, 1) := by decide +kernel
theorem dX12_changedPixels_7 : decode cX12_changedPixels 7 = .ok (.invokevirtual 222, 3) := by decide +kernel
theorem dX12_changedPixels_10 : decode cX12_changedPixels 10 = .ok (.ifCond .eq 15, 3) := by decide +kernel
theorem dX12_changedPixels_13 : decode cX12_changedPixels 13 = .ok (.aload_n 0, 1) := by decide +kernel
theorem dX12_changedPixels_14 : decode cX12_changedPixels 14 = .ok (.iload_n 2, 1) := by decide +kernel
theorem dX12_changedPixels_15 : decode cX12_changedPixels 15 = .ok (.invokevirtual 222, 3) := by decide +kernel
theorem dX12_changedPixels_18 : decode cX12_changedPixels 18 = .ok (.ifCond .eq 7, 3) := by decide +kernel
theorem dX12_changedPixels_21 : decode cX12_changedPixels 21 = .ok (.iconst 1, 1) := by decide +kernel
theorem dX12_changedPixels_22 : decode cX12_changedPixels 22 = .ok (.goto 4, 3) := by decide +kernel
theorem dX12_changedPixels_25 : decode cX12_changedPixels 25 = .ok (.iconst 0, 1) := by decide +kernel
theorem dX12_changedPixels_26 : decode cX12_changedPixels 26 = .ok (.invokevirtual 226, 3) := by decide +kernel
theorem dX12_changedPixels_29 : decode cX12_changedPixels 29 = .ok (.ifCond .eq 5, 3) := by decide +kernel
theorem dX12_changedPixels_32 : decode cX12_changedPixels 32 = .ok (.iconst 0, 1) := by decide +kernel
theorem dX12_changedPixels_33 : decode cX12_changedPixels 33 = .ok (.ireturn, 1) := by decide +kernel
theorem dX12_changedPixels_34 : decode cX12_changedPixels 34 = .ok (.iload_n 3, 1) := by decide +kernel
theorem dX12_changedPixels_35 : decode cX12_changedPixels 35 = .ok (.iconst 1, 1) := by decide +kernel
theorem dX12_changedPixels_36 : decode cX12_changedPixels 36 = .ok (.bipush 9, 2) := by decide +kernel
theorem dX12_changedPixels_38 : decode cX12_changedPixels 38 = .ok (.invokestatic 119, 3) := by decide +kernel
theorem dX12_changedPixels_41 : decode cX12_changedPixels 41 = .ok (.ifCond .ne 6, 3) := by decide +kernel
theorem dX12_changedPixels_44 : decode cX12_changedPixels 44 = .ok (.bipush (-2), 2) := by decide +kernel
theorem dX12_changedPixels_46 : decode cX12_changedPixels 46 = .ok (.ireturn, 1) := by decide +kernel
theorem dX12_changedPixels_47 : decode cX12_changedPixels 47 = .ok (.aload_n 0, 1) := by decide +kernel
theorem dX12_changedPixels_48 : decode cX12_changedPixels 48 = .ok (.getfield 27, 3) := by decide +kernel
theorem dX12_changedPixels_51 : decode cX12_changedPixels 51 = .ok (.iload_n 1, 1) := by decide +kernel
theorem dX12_changedPixels_52 : decode cX12_changedPixels 52 = .ok (.baload, 1) := by decide +kernel
theorem dX12_changedPixels_53 : decode cX12_changedPixels 53 = .ok (.ifCond .eq 12, 3) := by decide +kernel
theorem dX12_changedPixels_56 : decode cX12_changedPixels 56 = .ok (.aload_n 0, 1) := by decide +kernel
theorem dX12_changedPixels_57 : decode cX12_changedPixels 57 = .ok (.getfield 27, 3) := by decide +kernel
theorem dX12_changedPixels_60 : decode cX12_changedPixels 60 = .ok (.iload_n 2, 1) := by decide +kernel
theorem dX12_changedPixels_61 : decode cX12_changedPixels 61 = .ok (.baload, 1) := by decide +kernel
theorem dX12_changedPixels_62 : decode cX12_changedPixels 62 = .ok (.ifCond .ne 5, 3) := by decide +kernel
theorem dX12_changedPixels_65 : decode cX12_changedPixels 65 = .ok (.iconst (-1), 1) := by decide +kernel
theorem dX12_changedPixels_66 : decode cX12_changedPixels 66 = .ok (.ireturn, 1) := by decide +kernel
theorem dX12_changedPixels_67 : decode cX12_changedPixels 67 = .ok (.iconst 0, 1) := by decide +kernel
theorem dX12_changedPixels_68 : decode cX12_changedPixels 68 = .ok (.istore 4, 2) := by decide +kernel
theorem dX12_changedPixels_70 : decode cX12_changedPixels 70 = .ok (.iconst 0, 1) := by decide +kernel
theorem dX12_changedPixels_71 : decode cX12_changedPixels 71 = .ok (.istore 5, 2) := by decide +kernel
theorem dX12_changedPixels_73 : decode cX12_changedPixels 73 = .ok (.iload 5, 2) := by decide +kernel
theorem dX12_changedPixels_75 : decode cX12_changedPixels 75 = .ok (.aload_n 0, 1) := by decide +kernel
theorem dX12_changedPixels_76 : decode cX12_changedPixels 76 = .ok (.getfield 7, 3) := by decide +kernel
theorem dX12_changedPixels_79 : decode cX12_changedPixels 79 = .ok (.iconst 1, 1) := by decide +kernel
theorem dX12_changedPixels_80 : decode cX12_changedPixels 80 = .ok (.iaload, 1) := by decide +kernel
theorem dX12_changedPixels_81 : decode cX12_changedPixels 81 = .ok (.if_icmp .ge 83, 3) := by decide +kernel
theorem dX12_changedPixels_84 : decode cX12_changedPixels 84 = .ok (.iconst 0, 1) := by decide +kernel
theorem dX12_changedPixels_85 : decode cX12_changedPixels 85 = .ok (.istore 6, 2) := by decide +kernel
theorem dX12_changedPixels_87 : decode cX12_changedPixels 87 = .ok (.iload 6, 2) := by decide +kernel
theorem dX12_changedPixels_89 : decode cX12_changedPixels 89 = .ok (.aload_n 0, 1) := by decide +kernel
theorem dX12_changedPixels_90 : decode cX12_changedPixels 90 = .ok (.getfield 7, 3) := by decide +kernel
theorem dX12_changedPixels_93 : decode cX12_changedPixels 93 = .ok (.iconst 0, 1) := by decide +kernel
theorem dX12_changedPixels_94 : decode cX12_changedPixels 94 = .ok (.iaload, 1) := by decide +kernel
theorem dX12_changedPixels_95 : decode cX12_changedPixels 95 = .ok (.if_icmp .ge 63, 3) := by decide +kernel
theorem dX12_changedPixels_98 : decode cX12_changedPixels 98 = .ok (.aload_n 0, 1) := by decide +kernel
theorem dX12_changedPixels_99 : decode cX12_changedPixels 99 = .ok (.iload_n 1, 1) := by decide +kernel
theorem dX12_changedPixels_100 : decode cX12_changedPixels 100 = .ok (.iload 6, 2) := by decide +kernel
theorem dX12_changedPixels_102 : decode cX12_changedPixels 102 = .ok (.iload 5, 2) := by decide +kernel
theorem dX12_changedPixels_104 : decode cX12_changedPixels 104 = .ok (.invokevirtual 401, 3) := by decide +kernel
theorem dX12_changedPixels_107 : decode cX12_changedPixels 107 = .ok (.istore 7, 2) := by decide +kernel
theorem dX12_changedPixels_109 : decode cX12_changedPixels 109 = .ok (.aload_n 0, 1) := by decide +kernel
theorem dX12_changedPixels_110 : decode cX12_changedPixels 110 = .ok (.iload_n 2, 1) := by decide +kernel
theorem dX12_changedPixels_111 : decode cX12_changedPixels 111 = .ok (.iload 6, 2) := by decide +kernel
theorem dX12_changedPixels_113 : decode cX12_changedPixels 113 = .ok (.iload 5, 2) := by decide +kernel
theorem dX12_changedPixels_115 : decode cX12_changedPixels 115 = .ok (.invokevirtual 401, 3) := by decide +kernel
theorem dX12_changedPixels_118 : decode cX12_changedPixels 118 = .ok (.istore 8, 2) := by decide +kernel
theorem dX12_changedPixels_120 : decode cX12_changedPixels 120 = .ok (.iload 4, 2) := by decide +kernel
theorem dX12_changedPixels_122 : decode cX12_changedPixels 122 = .ok (.iload 7, 2) := by decide +kernel
theorem dX12_changedPixels_124 : decode cX12_changedPixels 124 = .ok (.ifCond .lt 24, 3) := by decide +kernel
theorem dX12_changedPixels_127 : decode cX12_changedPixels 127 = .ok (.iload 8, 2) := by decide +kernel
theorem dX12_changedPixels_129 : decode cX12_changedPixels 129 = .ok (.ifCond .lt 19, 3) := by decide +kernel
theorem dX12_changedPixels_132 : decode cX12_changedPixels 132 = .ok (.iload 7, 2) := by decide +kernel
theorem dX12_changedPixels_134 : decode cX12_changedPixels 134 = .ok (.iload 8, 2) := by decide +kernel
theorem dX12_changedPixels_136 : decode cX12_changedPixels 136 = .ok (.isub, 1) := by decide +kernel
theorem dX12_changedPixels_137 : decode cX12_changedPixels 137 = .ok (.invokestatic 253, 3) := by decide +kernel
theorem dX12_changedPixels_140 : decode cX12_changedPixels 140 = .ok (.iload_n 3, 1) := by decide +kernel
theorem dX12_changedPixels_141 : decode cX12_changedPixels 141 = .ok (.if_icmp .lt 7, 3) := by decide +kernel
theorem dX12_changedPixels_144 : decode cX12_changedPixels 144 = .ok (.iconst 1, 1) := by decide +kernel
theorem dX12_changedPixels_145 : decode cX12_changedPixels 145 = .ok (.goto 4, 3) := by decide +kernel
theorem dX12_changedPixels_148 : decode cX12_changedPixels 148 = .ok (.iconst 0, 1) := by decide +kernel
theorem dX12_changedPixels_149 : decode cX12_changedPixels 149 = .ok (.iadd, 1) := by decide +kernel
theorem dX12_changedPixels_150 : decode cX12_changedPixels 150 = .ok (.istore 4, 2) := by decide +kernel
theorem dX12_changedPixels_152 : decode cX12_changedPixels 152 = .ok (.iinc 6 1, 3) := by decide +kernel
theorem dX12_changedPixels_155 : decode cX12_changedPixels 155 = .ok (.goto (-68), 3) := by decide +kernel
theorem dX12_changedPixels_158 : decode cX12_changedPixels 158 = .ok (.iinc 5 1, 3) := by decide +kernel
theorem dX12_changedPixels_161 : decode cX12_changedPixels 161 = .ok (.goto (-88), 3) := by decide +kernel
theorem dX12_changedPixels_164 : decode cX12_changedPixels 164 = .ok (.iload 4, 2) := by decide +kernel
theorem dX12_changedPixels_166 : decode cX12_changedPixels 166 = .ok (.ireturn, 1) := by decide +kernel
theorem dX12_snowLine_0 : decode cX12_snowLine 0 = .ok (.aload_n 0, 1) := by decide +kernel
theorem dX12_snowLine_1 : decode cX12_snowLine 1 = .ok (.aload_n 0, 1) := by decide +kernel
theorem dX12_snowLine_2 : decode cX12_snowLine 2 = .ok (.iload_n 1, 1) := by decide +kernel
theorem dX12_snowLine_3 : decode cX12_snowLine 3 = .ok (.invokevirtual 222, 3) := by decide +kernel
theorem dX12_snowLine_6 : decode cX12_snowLine 6 = .ok (.invokevirtual 226, 3) := by decide +kernel
theorem dX12_snowLine_9 : decode cX12_snowLine 9 = .ok (.ifCond .eq 5, 3) := by decide +kernel
theorem dX12_snowLine_12 : decode cX12_snowLine 12 = .ok (.iconst 0, 1) := by decide +kernel
theorem dX12_snowLine_13 : decode cX12_snowLine 13 = .ok (.ireturn, 1) := by decide +kernel
theorem dX12_snowLine_14 : decode cX12_snowLine 14 = .ok (.iload_n 2, 1) := by decide +kernel
theorem dX12_snowLine_15 : decode cX12_snowLine 15 = .ok (.iconst 0, 1) := by decide +kernel
theorem dX12_snowLine_16 : decode cX12_snowLine 16 = .ok (.bipush 9, 2) := by decide +kernel
theorem dX12_snowLine_18 : decode cX12_snowLine 18 = .ok (.invokestatic 119, 3) := by decide +kernel
theorem dX12_snowLine_21 : decode cX12_snowLine 21 = .ok (.ifCond .ne 6, 3) := by decide +kernel
theorem dX12_snowLine_24 : decode cX12_snowLine 24 = .ok (.bipush (-2), 2) := by decide +kernel
theorem dX12_snowLine_26 : decode cX12_snowLine 26 = .ok (.ireturn, 1) := by decide +kernel
theorem dX12_snowLine_27 : decode cX12_snowLine 27 = .ok (.iconst 0, 1) := by decide +kernel
theorem dX12_snowLine_28 : decode cX12_snowLine 28 = .ok (.istore_n 3, 1) := by decide +kernel
theorem dX12_snowLine_29 : decode cX12_snowLine 29 = .ok (.iload_n 3, 1) := by decide +kernel
theorem dX12_snowLine_30 : decode cX12_snowLine 30 = .ok (.aload_n 0, 1) := by decide +kernel
theorem dX12_snowLine_31 : decode cX12_snowLine 31 = .ok (.getfield 7, 3) := by decide +kernel
theorem dX12_snowLine_34 : decode cX12_snowLine 34 = .ok (.iconst 1, 1) := by decide +kernel
theorem dX12_snowLine_35 : decode cX12_snowLine 35 = .ok (.iaload, 1) := by decide +kernel
theorem dX12_snowLine_36 : decode cX12_snowLine 36 = .ok (.if_icmp .ge 69, 3) := by decide +kernel
theorem dX12_snowLine_39 : decode cX12_snowLine 39 = .ok (.iconst 0, 1) := by decide +kernel
theorem dX12_snowLine_40 : decode cX12_snowLine 40 = .ok (.istore 4, 2) := by decide +kernel
theorem dX12_snowLine_42 : decode cX12_snowLine 42 = .ok (.iconst 0, 1) := by decide +kernel
theorem dX12_snowLine_43 : decode cX12_snowLine 43 = .ok (.istore 5, 2) := by decide +kernel
theorem dX12_snowLine_45 : decode cX12_snowLine 45 = .ok (.iload 5, 2) := by decide +kernel
theorem dX12_snowLine_47 : decode cX12_snowLine 47 = .ok (.aload_n 0, 1) := by decide +kernel
theorem dX12_snowLine_48 : decode cX12_snowLine 48 = .ok (.getfield 7, 3) := by decide +kernel
theorem dX12_snowLine_51 : decode cX12_snowLine 51 = .ok (.iconst 0, 1) := by decide +kernel
theorem dX12_snowLine_52 : decode cX12_snowLine 52 = .ok (.iaload, 1) := by decide +kernel
theorem dX12_snowLine_53 : decode cX12_snowLine 53 = .ok (.if_icmp .ge 31, 3) := by decide +kernel
theorem dX12_snowLine_56 : decode cX12_snowLine 56 = .ok (.iload 4, 2) := by decide +kernel
theorem dX12_snowLine_58 : decode cX12_snowLine 58 = .ok (.aload_n 0, 1) := by decide +kernel
theorem dX12_snowLine_59 : decode cX12_snowLine 59 = .ok (.iload_n 1, 1) := by decide +kernel
theorem dX12_snowLine_60 : decode cX12_snowLine 60 = .ok (.iload 5, 2) := by decide +kernel
theorem dX12_snowLine_62 : decode cX12_snowLine 62 = .ok (.iload_n 3, 1) := by decide +kernel
theorem dX12_snowLine_63 : decode cX12_snowLine 63 = .ok (.invokevirtual 237, 3) := by decide +kernel
theorem dX12_snowLine_66 : decode cX12_snowLine 66 = .ok (.iload_n 2, 1) := by decide +kernel
theorem dX12_snowLine_67 : decode cX12_snowLine 67 = .ok (.if_icmp .lt 7, 3) := by decide +kernel
theorem dX12_snowLine_70 : decode cX12_snowLine 70 = .ok (.iconst 1, 1) := by decide +kernel
theorem dX12_snowLine_71 : decode cX12_snowLine 71 = .ok (.goto 4, 3) := by decide +kernel
theorem dX12_snowLine_74 : decode cX12_snowLine 74 = .ok (.iconst 0, 1) := by decide +kernel
theorem dX12_snowLine_75 : decode cX12_snowLine 75 = .ok (.iadd, 1) := by decide +kernel
theorem dX12_snowLine_76 : decode cX12_snowLine 76 = .ok (.istore 4, 2) := by decide +kernel
theorem dX12_snowLine_78 : decode cX12_snowLine 78 = .ok (.iinc 5 1, 3) := by decide +kernel
theorem dX12_snowLine_81 : decode cX12_snowLine 81 = .ok (.goto (-36), 3) := by decide +kernel
theorem dX12_snowLine_84 : decode cX12_snowLine 84 = .ok (.iconst 2, 1) := by decide +kernel
theorem dX12_snowLine_85 : decode cX12_snowLine 85 = .ok (.iload 4, 2) := by decide +kernel
theorem dX12_snowLine_87 : decode cX12_snowLine 87 = .ok (.imul, 1) := by decide +kernel
theorem dX12_snowLine_88 : decode cX12_snowLine 88 = .ok (.aload_n 0, 1) := by decide +kernel
theorem dX12_snowLine_89 : decode cX12_snowLine 89 = .ok (.getfield 7, 3) := by decide +kernel
theorem dX12_snowLine_92 : decode cX12_snowLine 92 = .ok (.iconst 0, 1) := by decide +kernel
theorem dX12_snowLine_93 : decode cX12_snowLine 93 = .ok (.iaload, 1) := by decide +kernel
theorem dX12_snowLine_94 : decode cX12_snowLine 94 = .ok (.if_icmp .ge 5, 3) := by decide +kernel
theorem dX12_snowLine_97 : decode cX12_snowLine 97 = .ok (.iload_n 3, 1) := by decide +kernel
theorem dX12_snowLine_98 : decode cX12_snowLine 98 = .ok (.ireturn, 1) := by decide +kernel
theorem dX12_snowLine_99 : decode cX12_snowLine 99 = .ok (.iinc 3 1, 3) := by decide +kernel
theorem dX12_snowLine_102 : decode cX12_snowLine 102 = .ok (.goto (-73), 3) := by decide +kernel
theorem dX12_snowLine_105 : decode cX12_snowLine 105 = .ok (.aload_n 0, 1) := by decide +kernel
theorem dX12_snowLine_106 : decode cX12_snowLine 106 = .ok (.getfield 7, 3) := by decide +kernel
theorem dX12_snowLine_109 : decode cX12_snowLine 109 = .ok (.iconst 1, 1) := by decide +kernel
theorem dX12_snowLine_110 : decode cX12_snowLine 110 = .ok (.iaload, 1) := by decide +kernel
theorem dX12_snowLine_111 : decode cX12_snowLine 111 = .ok (.ireturn, 1) := by decide +kernel
theorem dX12_distanceIn_0 : decode cX12_distanceIn 0 = .ok (.aload_n 0, 1) := by decide +kernel
theorem dX12_distanceIn_1 : decode cX12_distanceIn 1 = .ok (.iload_n 1, 1) := by decide +kernel
theorem dX12_distanceIn_2 : decode cX12_distanceIn 2 = .ok (.invokevirtual 325, 3) := by decide +kernel
theorem dX12_distanceIn_5 : decode cX12_distanceIn 5 = .ok (.aload_n 0, 1) := by decide +kernel
theorem dX12_distanceIn_6 : decode cX12_distanceIn 6 = .ok (.getfield 73, 3) := by decide +kernel
theorem dX12_distanceIn_9 : decode cX12_distanceIn 9 = .ok (.iload_n 1, 1) := by decide +kernel
theorem dX12_distanceIn_10 : decode cX12_distanceIn 10 = .ok (.iaload, 1) := by decide +kernel
theorem dX12_distanceIn_11 : decode cX12_distanceIn 11 = .ok (.isub, 1) := by decide +kernel
theorem dX12_distanceIn_12 : decode cX12_distanceIn 12 = .ok (.istore_n 2, 1) := by decide +kernel
theorem dX12_distanceIn_13 : decode cX12_distanceIn 13 = .ok (.aload_n 0, 1) := by decide +kernel
theorem dX12_distanceIn_14 : decode cX12_distanceIn 14 = .ok (.iload_n 1, 1) := by decide +kernel
theorem dX12_distanceIn_15 : decode cX12_distanceIn 15 = .ok (.invokevirtual 328, 3) := by decide +kernel
theorem dX12_distanceIn_18 : decode cX12_distanceIn 18 = .ok (.aload_n 0, 1) := by decide +kernel
theorem dX12_distanceIn_19 : decode cX12_distanceIn 19 = .ok (.getfield 76, 3) := by decide +kernel
theorem dX12_distanceIn_22 : decode cX12_distanceIn 22 = .ok (.iload_n 1, 1) := by decide +kernel
theorem dX12_distanceIn_23 : decode cX12_distanceIn 23 = .ok (.iaload, 1) := by decide +kernel
theorem dX12_distanceIn_24 : decode cX12_distanceIn 24 = .ok (.isub, 1) := by decide +kernel
theorem dX12_distanceIn_25 : decode cX12_distanceIn 25 = .ok (.istore_n 3, 1) := by decide +kernel
theorem dX12_distanceIn_26 : decode cX12_distanceIn 26 = .ok (.sipush 10000, 3) := by decide +kernel
theorem dX12_distanceIn_29 : decode cX12_distanceIn 29 = .ok (.iload_n 2, 1) := by decide +kernel
theorem dX12_distanceIn_30 : decode cX12_distanceIn 30 = .ok (.iload_n 2, 1) := by decide +kernel
theorem dX12_distanceIn_31 : decode cX12_distanceIn 31 = .ok (.imul, 1) := by decide +kernel
theorem dX12_distanceIn_32 : decode cX12_distanceIn 32 = .ok (.iload_n 3, 1) := by decide +kernel
theorem dX12_distanceIn_33 : decode cX12_distanceIn 33 = .ok (.iload_n 3, 1) := by decide +kernel
theorem dX12_distanceIn_34 : decode cX12_distanceIn 34 = .ok (.imul, 1) := by decide +kernel
theorem dX12_distanceIn_35 : decode cX12_distanceIn 35 = .ok (.iadd, 1) := by decide +kernel
theorem dX12_distanceIn_36 : decode cX12_distanceIn 36 = .ok (.imul, 1) := by decide +kernel
theorem dX12_distanceIn_37 : decode cX12_distanceIn 37 = .ok (.invokestatic 331, 3) := by decide +kernel
theorem dX12_distanceIn_40 : decode cX12_distanceIn 40 = .ok (.ireturn, 1) := by decide +kernel
theorem dX12_strain_0 : decode cX12_strain 0 = .ok (.aload_n 0, 1) := by decide +kernel
theorem dX12_strain_1 : decode cX12_strain 1 = .ok (.aload_n 0, 1) := by decide +kernel
theorem dX12_strain_2 : decode cX12_strain 2 = .ok (.iload_n 1, 1) := by decide +kernel
theorem dX12_strain_3 : decode cX12_strain 3 = .ok (.invokevirtual 241, 3) := by decide +kernel
theorem dX12_strain_6 : decode cX12_strain 6 = .ok (.ifCond .eq 15, 3) := by decide +kernel
theorem dX12_strain_9 : decode cX12_strain 9 = .ok (.aload_n 0, 1) := by decide +kernel
theorem dX12_strain_10 : decode cX12_strain 10 = .ok (.iload_n 2, 1) := by decide +kernel
theorem dX12_strain_11 : decode cX12_strain 11 = .ok (.invokevirtual 241, 3) := by decide +kernel
theorem dX12_strain_14 : decode cX12_strain 14 = .ok (.ifCond .eq 7, 3) := by decide +kernel
theorem dX12_strain_17 : decode cX12_strain 17 = .ok (.iconst 1, 1) := by decide +kernel
theorem dX12_strain_18 : decode cX12_strain 18 = .ok (.goto 4, 3) := by decide +kernel
theorem dX12_strain_21 : decode cX12_strain 21 = .ok (.iconst 0, 1) := by decide +kernel
theorem dX12_strain_22 : decode cX12_strain 22 = .ok (.invokevirtual 226, 3) := by decide +kernel
theorem dX12_strain_25 : decode cX12_strain 25 = .ok (.ifCond .eq 5, 3) := by decide +kernel
theorem dX12_strain_28 : decode cX12_strain 28 = .ok (.iconst 0, 1) := by decide +kernel
theorem dX12_strain_29 : decode cX12_strain 29 = .ok (.ireturn, 1) := by decide +kernel
theorem dX12_strain_30 : decode cX12_strain 30 = .ok (.aload_n 0, 1) := by decide +kernel
theorem dX12_strain_31 : decode cX12_strain 31 = .ok (.iload_n 2, 1) := by decide +kernel
theorem dX12_strain_32 : decode cX12_strain 32 = .ok (.aload_n 0, 1) := by decide +kernel
theorem dX12_strain_33 : decode cX12_strain 33 = .ok (.iconst 4, 1) := by decide +kernel
theorem dX12_strain_34 : decode cX12_strain 34 = .ok (.invokevirtual 216, 3) := by decide +kernel
theorem dX12_strain_37 : decode cX12_strain 37 = .ok (.invokevirtual 309, 3) := by decide +kernel
theorem dX12_strain_40 : decode cX12_strain 40 = .ok (.iconst 0, 1) := by decide +kernel
theorem dX12_strain_41 : decode cX12_strain 41 = .ok (.istore_n 3, 1) := by decide +kernel
theorem dX12_strain_42 : decode cX12_strain 42 = .ok (.iload_n 3, 1) := by decide +kernel
theorem dX12_strain_43 : decode cX12_strain 43 = .ok (.aload_n 0, 1) := by decide +kernel
theorem dX12_strain_44 : decode cX12_strain 44 = .ok (.getfield 7, 3) := by decide +kernel
theorem dX12_strain_47 : decode cX12_strain 47 = .ok (.iconst 2, 1) := by decide +kernel
theorem dX12_strain_48 : decode cX12_strain 48 = .ok (.iaload, 1) := by decide +kernel
theorem dX12_strain_49 : decode cX12_strain 49 = .ok (.if_icmp .ge 69, 3) := by decide +kernel
theorem dX12_strain_52 : decode cX12_strain 52 = .ok (.aload_n 0, 1) := by decide +kernel
theorem dX12_strain_53 : decode cX12_strain 53 = .ok (.getfield 70, 3) := by decide +kernel
theorem dX12_strain_56 : decode cX12_strain 56 = .ok (.iload_n 3, 1) := by decide +kernel
theorem dX12_strain_57 : decode cX12_strain 57 = .ok (.aload_n 0, 1) := by decide +kernel
theorem dX12_strain_58 : decode cX12_strain 58 = .ok (.getfield 40, 3) := by decide +kernel
theorem dX12_strain_61 : decode cX12_strain 61 = .ok (.iload_n 3, 1) := by decide +kernel
theorem dX12_strain_62 : decode cX12_strain 62 = .ok (.baload, 1) := by decide +kernel
theorem dX12_strain_63 : decode cX12_strain 63 = .ok (.bastore, 1) := by decide +kernel
theorem dX12_strain_64 : decode cX12_strain 64 = .ok (.aload_n 0, 1) := by decide +kernel
theorem dX12_strain_65 : decode cX12_strain 65 = .ok (.getfield 73, 3) := by decide +kernel
theorem dX12_strain_68 : decode cX12_strain 68 = .ok (.iload_n 3, 1) := by decide +kernel
theorem dX12_strain_69 : decode cX12_strain 69 = .ok (.aload_n 0, 1) := by decide +kernel
theorem dX12_strain_70 : decode cX12_strain 70 = .ok (.getfield 40, 3) := by decide +kernel
theorem dX12_strain_73 : decode cX12_strain 73 = .ok (.iload_n 3, 1) := by decide +kernel
theorem dX12_strain_74 : decode cX12_strain 74 = .ok (.baload, 1) := by decide +kernel
theorem dX12_strain_75 : decode cX12_strain 75 = .ok (.ifCond .eq 11, 3) := by decide +kernel
theorem dX12_strain_78 : decode cX12_strain 78 = .ok (.aload_n 0, 1) := by decide +kernel
theorem dX12_strain_79 : decode cX12_strain 79 = .ok (.iload_n 3, 1) := by decide +kernel
theorem dX12_strain_80 : decode cX12_strain 80 = .ok (.invokevirtual 325, 3) := by decide +kernel
theorem dX12_strain_83 : decode cX12_strain 83 = .ok (.goto 4, 3) := by decide +kernel
theorem dX12_strain_86 : decode cX12_strain 86 = .ok (.iconst 0, 1) := by decide +kernel
theorem dX12_strain_87 : decode cX12_strain 87 = .ok (.iastore, 1) := by decide +kernel
theorem dX12_strain_88 : decode cX12_strain 88 = .ok (.aload_n 0, 1) := by decide +kernel
theorem dX12_strain_89 : decode cX12_strain 89 = .ok (.getfield 76, 3) := by decide +kernel
theorem dX12_strain_92 : decode cX12_strain 92 = .ok (.iload_n 3, 1) := by decide +kernel
theorem dX12_strain_93 : decode cX12_strain 93 = .ok (.aload_n 0, 1) := by decide +kernel
theorem dX12_strain_94 : decode cX12_strain 94 = .ok (.getfield 40, 3) := by decide +kernel
theorem dX12_strain_97 : decode cX12_strain 97 = .ok (.iload_n 3, 1) := by decide +kernel
theorem dX12_strain_98 : decode cX12_strain 98 = .ok (.baload, 1) := by decide +kernel
theorem dX12_strain_99 : decode cX12_strain 99 = .ok (.ifCond .eq 11, 3) := by decide +kernel
theorem dX12_strain_102 : decode cX12_strain 102 = .ok (.aload_n 0, 1) := by decide +kernel
theorem dX12_strain_103 : decode cX12_strain 103 = .ok (.iload_n 3, 1) := by decide +kernel
theorem dX12_strain_104 : decode cX12_strain 104 = .ok (.invokevirtual 328, 3) := by decide +kernel
theorem dX12_strain_107 : decode cX12_strain 107 = .ok (.goto 4, 3) := by decide +kernel
theorem dX12_strain_110 : decode cX12_strain 110 = .ok (.iconst 0, 1) := by decide +kernel
theorem dX12_strain_111 : decode cX12_strain 111 = .ok (.iastore, 1) := by decide +kernel
theorem dX12_strain_112 : decode cX12_strain 112 = .ok (.iinc 3 1, 3) := by decide +kernel
theorem dX12_strain_115 : decode cX12_strain 115 = .ok (.goto (-73), 3) := by decide +kernel
theorem dX12_strain_118 : decode cX12_strain 118 = .ok (.aload_n 0, 1) := by decide +kernel
theorem dX12_strain_119 : decode cX12_strain 119 = .ok (.iload_n 1, 1) := by decide +kernel
theorem dX12_strain_120 : decode cX12_strain 120 = .ok (.aload_n 0, 1) := by decide +kernel
theorem dX12_strain_121 : decode cX12_strain 121 = .ok (.iconst 4, 1) := by decide +kernel
theorem dX12_strain_122 : decode cX12_strain 122 = .ok (.invokevirtual 216, 3) := by decide +kernel
theorem dX12_strain_125 : decode cX12_strain 125 = .ok (.invokevirtual 309, 3) := by decide +kernel
theorem dX12_strain_128 : decode cX12_strain 128 = .ok (.iconst (-1), 1) := by decide +kernel
theorem dX12_strain_129 : decode cX12_strain 129 = .ok (.istore_n 3, 1) := by decide +kernel
theorem dX12_strain_130 : decode cX12_strain 130 = .ok (.iconst (-1), 1) := by decide +kernel
theorem dX12_strain_131 : decode cX12_strain 131 = .ok (.istore 4, 2) := by decide +kernel
theorem dX12_strain_133 : decode cX12_strain 133 = .ok (.iconst 0, 1) := by decide +kernel
theorem dX12_strain_134 : decode cX12_strain 134 = .ok (.istore 5, 2) := by decide +kernel
theorem dX12_strain_136 : decode cX12_strain 136 = .ok (.iload 5, 2) := by decide +kernel
theorem dX12_strain_138 : decode cX12_strain 138 = .ok (.aload_n 0, 1) := by decide +kernel
theorem dX12_strain_139 : decode cX12_strain 139 = .ok (.getfield 7, 3) := by decide +kernel
theorem dX12_strain_142 : decode cX12_strain 142 = .ok (.iconst 2, 1) := by decide +kernel
theorem dX12_strain_143 : decode cX12_strain 143 = .ok (.iaload, 1) := by decide +kernel
theorem dX12_strain_144 : decode cX12_strain 144 = .ok (.if_icmp .ge 47, 3) := by decide +kernel
theorem dX12_strain_147 : decode cX12_strain 147 = .ok (.aload_n 0, 1) := by decide +kernel
theorem dX12_strain_148 : decode cX12_strain 148 = .ok (.getfield 40, 3) := by decide +kernel
theorem dX12_strain_151 : decode cX12_strain 151 = .ok (.iload 5, 2) := by decide +kernel
theorem dX12_strain_153 : decode cX12_strain 153 = .ok (.baload, 1) := by decide +kernel
theorem dX12_strain_154 : decode cX12_strain 154 = .ok (.ifCond .eq 31, 3) := by decide +kernel
theorem dX12_strain_157 : decode cX12_strain 157 = .ok (.aload_n 0, 1) := by decide +kernel
theorem dX12_strain_158 : decode cX12_strain 158 = .ok (.getfield 70, 3) := by decide +kernel
theorem dX12_strain_161 : decode cX12_strain 161 = .ok (.iload 5, 2) := by decide +kernel
theorem dX12_strain_163 : decode cX12_strain 163 = .ok (.baload, 1) := by decide +kernel
theorem dX12_strain_164 : decode cX12_strain 164 = .ok (.ifCond .ne 6, 3) := by decide +kernel
theorem dX12_strain_167 : decode cX12_strain 167 = .ok (.goto 18, 3) := by decide +kernel
theorem dX12_strain_170 : decode cX12_strain 170 = .ok (.iload_n 3, 1) := by decide +kernel
theorem dX12_strain_171 : decode cX12_strain 171 = .ok (.ifCond .ge 8, 3) := by decide +kernel
theorem dX12_strain_174 : decode cX12_strain 174 = .ok (.iload 5, 2) := by decide +kernel
theorem dX12_strain_176 : decode cX12_strain 176 = .ok (.goto 4, 3) := by decide +kernel
theorem dX12_strain_179 : decode cX12_strain 179 = .ok (.iload_n 3, 1) := by decide +kernel
theorem dX12_strain_180 : decode cX12_strain 180 = .ok (.istore_n 3, 1) := by decide +kernel
theorem dX12_strain_181 : decode cX12_strain 181 = .ok (.iload 5, 2) := by decide +kernel
theorem dX12_strain_183 : decode cX12_strain 183 = .ok (.istore 4, 2) := by decide +kernel
theorem dX12_strain_185 : decode cX12_strain 185 = .ok (.iinc 5 1, 3) := by decide +kernel
theorem dX12_strain_188 : decode cX12_strain 188 = .ok (.goto (-52), 3) := by decide +kernel
theorem dX12_strain_191 : decode cX12_strain 191 = .ok (.iload_n 3, 1) := by decide +kernel
theorem dX12_strain_192 : decode cX12_strain 192 = .ok (.iload 4, 2) := by decide +kernel
theorem dX12_strain_194 : decode cX12_strain 194 = .ok (.if_icmp .ne 9, 3) := by decide +kernel
theorem dX12_strain_197 : decode cX12_strain 197 = .ok (.ldc_w 352, 3) := by decide +kernel
theorem dX12_strain_200 : decode cX12_strain 200 = .ok (.goto 15, 3) := by decide +kernel
theorem dX12_strain_203 : decode cX12_strain 203 = .ok (.aload_n 0, 1) := by decide +kernel
theorem dX12_strain_204 : decode cX12_strain 204 = .ok (.iload 4, 2) := by decide +kernel
theorem dX12_strain_206 : decode cX12_strain 206 = .ok (.invokevirtual 404, 3) := by decide +kernel
theorem dX12_strain_209 : decode cX12_strain 209 = .ok (.aload_n 0, 1) := by decide +kernel
theorem dX12_strain_210 : decode cX12_strain 210 = .ok (.iload_n 3, 1) := by decide +kernel
theorem dX12_strain_211 : decode cX12_strain 211 = .ok (.invokevirtual 404, 3) := by decide +kernel
theorem dX12_strain_214 : decode cX12_strain 214 = .ok (.isub, 1) := by decide +kernel
theorem dX12_strain_215 : decode cX12_strain 215 = .ok (.ireturn, 1) := by decide +kernel
theorem dX12_direction_0 : decode cX12_direction 0 = .ok (.aload_n 0, 1) := by decide +kernel
theorem dX12_direction_1 : decode cX12_direction 1 = .ok (.iload_n 1, 1) := by decide +kernel
theorem dX12_direction_2 : decode cX12_direction 2 = .ok (.invokevirtual 337, 3) := by decide +kernel
theorem dX12_direction_5 : decode cX12_direction 5 = .ok (.ifCond .eq 5, 3) := by decide +kernel
theorem dX12_direction_8 : decode cX12_direction 8 = .ok (.iconst 0, 1) := by decide +kernel
theorem dX12_direction_9 : decode cX12_direction 9 = .ok (.ireturn, 1) := by decide +kernel
theorem dX12_direction_10 : decode cX12_direction 10 = .ok (.aload_n 0, 1) := by decide +kernel
theorem dX12_direction_11 : decode cX12_direction 11 = .ok (.getfield 322, 3) := by decide +kernel
theorem dX12_direction_14 : decode cX12_direction 14 = .ok (.ifCond .ne 5, 3) := by decide +kernel
theorem dX12_direction_17 : decode cX12_direction 17 = .ok (.iconst (-1), 1) := by decide +kernel
theorem dX12_direction_18 : decode cX12_direction 18 = .ok (.ireturn, 1) := by decide +kernel
theorem dX12_direction_19 : decode cX12_direction 19 = .ok (.aload_n 0, 1) := by decide +kernel
theorem dX12_direction_20 : decode cX12_direction 20 = .ok (.aload_n 0, 1) := by decide +kernel
theorem dX12_direction_21 : decode cX12_direction 21 = .ok (.getfield 52, 3) := by decide +kernel
theorem dX12_direction_24 : decode cX12_direction 24 = .ok (.aload_n 0, 1) := by decide +kernel
theorem dX12_direction_25 : decode cX12_direction 25 = .ok (.getfield 322, 3) := by decide +kernel
theorem dX12_direction_28 : decode cX12_direction 28 = .ok (.iconst 1, 1) := by decide +kernel
theorem dX12_direction_29 : decode cX12_direction 29 = .ok (.isub, 1) := by decide +kernel
theorem dX12_direction_30 : decode cX12_direction 30 = .ok (.iaload, 1) := by decide +kernel
theorem dX12_direction_31 : decode cX12_direction 31 = .ok (.invokevirtual 325, 3) := by decide +kernel
theorem dX12_direction_34 : decode cX12_direction 34 = .ok (.aload_n 0, 1) := by decide +kernel
theorem dX12_direction_35 : decode cX12_direction 35 = .ok (.aload_n 0, 1) := by decide +kernel
theorem dX12_direction_36 : decode cX12_direction 36 = .ok (.getfield 49, 3) := by decide +kernel
theorem dX12_direction_39 : decode cX12_direction 39 = .ok (.iconst 0, 1) := by decide +kernel
theorem dX12_direction_40 : decode cX12_direction 40 = .ok (.iaload, 1) := by decide +kernel
theorem dX12_direction_41 : decode cX12_direction 41 = .ok (.invokevirtual 325, 3) := by decide +kernel
theorem dX12_direction_44 : decode cX12_direction 44 = .ok (.isub, 1) := by decide +kernel
theorem dX12_direction_45 : decode cX12_direction 45 = .ok (.istore_n 2, 1) := by decide +kernel
theorem dX12_direction_46 : decode cX12_direction 46 = .ok (.aload_n 0, 1) := by decide +kernel
theorem dX12_direction_47 : decode cX12_direction 47 = .ok (.aload_n 0, 1) := by decide +kernel
theorem dX12_direction_48 : decode cX12_direction 48 = .ok (.getfield 52, 3) := by decide +kernel
theorem dX12_direction_51 : decode cX12_direction 51 = .ok (.aload_n 0, 1) := by decide +kernel
theorem dX12_direction_52 : decode cX12_direction 52 = .ok (.getfield 322, 3) := by decide +kernel
theorem dX12_direction_55 : decode cX12_direction 55 = .ok (.iconst 1, 1) := by decide +kernel
theorem dX12_direction_56 : decode cX12_direction 56 = .ok (.isub, 1) := by decide +kernel
theorem dX12_direction_57 : decode cX12_direction 57 = .ok (.iaload, 1) := by decide +kernel
theorem dX12_direction_58 : decode cX12_direction 58 = .ok (.invokevirtual 328, 3) := by decide +kernel
theorem dX12_direction_61 : decode cX12_direction 61 = .ok (.aload_n 0, 1) := by decide +kernel
theorem dX12_direction_62 : decode cX12_direction 62 = .ok (.aload_n 0, 1) := by decide +kernel
theorem dX12_direction_63 : decode cX12_direction 63 = .ok (.getfield 49, 3) := by decide +kernel
theorem dX12_direction_66 : decode cX12_direction 66 = .ok (.iconst 0, 1) := by decide +kernel
theorem dX12_direction_67 : decode cX12_direction 67 = .ok (.iaload, 1) := by decide +kernel
theorem dX12_direction_68 : decode cX12_direction 68 = .ok (.invokevirtual 328, 3) := by decide +kernel
theorem dX12_direction_71 : decode cX12_direction 71 = .ok (.isub, 1) := by decide +kernel
theorem dX12_direction_72 : decode cX12_direction 72 = .ok (.istore_n 3, 1) := by decide +kernel
theorem dX12_direction_73 : decode cX12_direction 73 = .ok (.iload_n 2, 1) := by decide +kernel
theorem dX12_direction_74 : decode cX12_direction 74 = .ok (.ifCond .ne 9, 3) := by decide +kernel
theorem dX12_direction_77 : decode cX12_direction 77 = .ok (.iload_n 3, 1) := by decide +kernel
theorem dX12_direction_78 : decode cX12_direction 78 = .ok (.ifCond .ne 5, 3) := by decide +kernel
theorem dX12_direction_81 : decode cX12_direction 81 = .ok (.iconst (-1), 1) := by decide +kernel
theorem dX12_direction_82 : decode cX12_direction 82 = .ok (.ireturn, 1) := by decide +kernel
theorem dX12_direction_83 : decode cX12_direction 83 = .ok (.iload_n 2, 1) := by decide +kernel
theorem dX12_direction_84 : decode cX12_direction 84 = .ok (.invokestatic 253, 3) := by decide +kernel
theorem dX12_direction_87 : decode cX12_direction 87 = .ok (.iconst 2, 1) := by decide +kernel
theorem dX12_direction_88 : decode cX12_direction 88 = .ok (.iload_n 3, 1) := by decide +kernel
theorem dX12_direction_89 : decode cX12_direction 89 = .ok (.invokestatic 253, 3) := by decide +kernel
theorem dX12_direction_92 : decode cX12_direction 92 = .ok (.imul, 1) := by decide +kernel
theorem dX12_direction_93 : decode cX12_direction 93 = .ok (.if_icmp .le 13, 3) := by decide +kernel
theorem dX12_direction_96 : decode cX12_direction 96 = .ok (.iload_n 2, 1) := by decide +kernel
theorem dX12_direction_97 : decode cX12_direction 97 = .ok (.ifCond .le 7, 3) := by decide +kernel
theorem dX12_direction_100 : decode cX12_direction 100 = .ok (.iconst 0, 1) := by decide +kernel
theorem dX12_direction_101 : decode cX12_direction 101 = .ok (.goto 4, 3) := by decide +kernel
theorem dX12_direction_104 : decode cX12_direction 104 = .ok (.iconst 4, 1) := by decide +kernel
theorem dX12_direction_105 : decode cX12_direction 105 = .ok (.ireturn, 1) := by decide +kernel
theorem dX12_direction_106 : decode cX12_direction 106 = .ok (.iload_n 3, 1) := by decide +kernel
theorem dX12_direction_107 : decode cX12_direction 107 = .ok (.invokestatic 253, 3) := by decide +kernel
theorem dX12_direction_110 : decode cX12_direction 110 = .ok (.iconst 2, 1) := by decide +kernel
theorem dX12_direction_111 : decode cX12_direction 111 = .ok (.iload_n 2, 1) := by decide +kernel
theorem dX12_direction_112 : decode cX12_direction 112 = .ok (.invokestatic 253, 3) := by decide +kernel
theorem dX12_direction_115 : decode cX12_direction 115 = .ok (.imul, 1) := by decide +kernel
theorem dX12_direction_116 : decode cX12_direction 116 = .ok (.if_icmp .le 14, 3) := by decide +kernel
theorem dX12_direction_119 : decode cX12_direction 119 = .ok (.iload_n 3, 1) := by decide +kernel
theorem dX12_direction_120 : decode cX12_direction 120 = .ok (.ifCond .le 7, 3) := by decide +kernel
theorem dX12_direction_123 : decode cX12_direction 123 = .ok (.iconst 2, 1) := by decide +kernel
theorem dX12_direction_124 : decode cX12_direction 124 = .ok (.goto 5, 3) := by decide +kernel
theorem dX12_direction_127 : decode cX12_direction 127 = .ok (.bipush 6, 2) := by decide +kernel
theorem dX12_direction_129 : decode cX12_direction 129 = .ok (.ireturn, 1) := by decide +kernel
theorem dX12_direction_130 : decode cX12_direction 130 = .ok (.iload_n 2, 1) := by decide +kernel
theorem dX12_direction_131 : decode cX12_direction 131 = .ok (.ifCond .le 16, 3) := by decide +kernel
theorem dX12_direction_134 : decode cX12_direction 134 = .ok (.iload_n 3, 1) := by decide +kernel
theorem dX12_direction_135 : decode cX12_direction 135 = .ok (.ifCond .le 7, 3) := by decide +kernel
theorem dX12_direction_138 : decode cX12_direction 138 = .ok (.iconst 1, 1) := by decide +kernel
theorem dX12_direction_139 : decode cX12_direction 139 = .ok (.goto 17, 3) := by decide +kernel
theorem dX12_direction_142 : decode cX12_direction 142 = .ok (.bipush 7, 2) := by decide +kernel
theorem dX12_direction_144 : decode cX12_direction 144 = .ok (.goto 12, 3) := by decide +kernel
theorem dX12_direction_147 : decode cX12_direction 147 = .ok (.iload_n 3, 1) := by decide +kernel
theorem dX12_direction_148 : decode cX12_direction 148 = .ok (.ifCond .le 7, 3) := by decide +kernel
theorem dX12_direction_151 : decode cX12_direction 151 = .ok (.iconst 3, 1) := by decide +kernel
theorem dX12_direction_152 : decode cX12_direction 152 = .ok (.goto 4, 3) := by decide +kernel
theorem dX12_direction_155 : decode cX12_direction 155 = .ok (.iconst 5, 1) := by decide +kernel
theorem dX12_direction_156 : decode cX12_direction 156 = .ok (.ireturn, 1) := by decide +kernel
theorem dX12_meltInSegment_0 : decode cX12_meltInSegment 0 = .ok (.aload_n 0, 1) := by decide +kernel
theorem dX12_meltInSegment_1 : decode cX12_meltInSegment 1 = .ok (.iload_n 1, 1) := by decide +kernel
theorem dX12_meltInSegment_2 : decode cX12_meltInSegment 2 = .ok (.invokevirtual 337, 3) := by decide +kernel
theorem dX12_meltInSegment_5 : decode cX12_meltInSegment 5 = .ok (.ifCond .eq 5, 3) := by decide +kernel
theorem dX12_meltInSegment_8 : decode cX12_meltInSegment 8 = .ok (.iconst 0, 1) := by decide +kernel
theorem dX12_meltInSegment_9 : decode cX12_meltInSegment 9 = .ok (.ireturn, 1) := by decide +kernel
theorem dX12_meltInSegment_10 : decode cX12_meltInSegment 10 = .ok (.aload_n 0, 1) := by decide +kernel
theorem dX12_meltInSegment_11 : decode cX12_meltInSegment 11 = .ok (.iload_n 2, 1) := by decide +kernel
theorem dX12_meltInSegment_12 : decode cX12_meltInSegment 12 = .ok (.iconst 0, 1) := by decide +kernel
theorem dX12_meltInSegment_13 : decode cX12_meltInSegment 13 = .ok (.aload_n 0, 1) := by decide +kernel
theorem dX12_meltInSegment_14 : decode cX12_meltInSegment 14 = .ok (.getfield 322, 3) := by decide +kernel
theorem dX12_meltInSegment_17 : decode cX12_meltInSegment 17 = .ok (.iconst 1, 1) := by decide +kernel
theorem dX12_meltInSegment_18 : decode cX12_meltInSegment 18 = .ok (.isub, 1) := by decide +kernel
theorem dX12_meltInSegment_19 : decode cX12_meltInSegment 19 = .ok (.invokestatic 119, 3) := by decide +kernel
theorem dX12_meltInSegment_22 : decode cX12_meltInSegment 22 = .ok (.invokevirtual 226, 3) := by decide +kernel
theorem dX12_meltInSegment_25 : decode cX12_meltInSegment 25 = .ok (.ifCond .eq 7, 3) := by decide +kernel
theorem dX12_meltInSegment_28 : decode cX12_meltInSegment 28 = .ok (.iconst 0, 1) := by decide +kernel
theorem dX12_meltInSegment_29 : decode cX12_meltInSegment 29 = .ok (.goto 27, 3) := by decide +kernel
theorem dX12_meltInSegment_32 : decode cX12_meltInSegment 32 = .ok (.aload_n 0, 1) := by decide +kernel
theorem dX12_meltInSegment_33 : decode cX12_meltInSegment 33 = .ok (.aload_n 0, 1) := by decide +kernel
theorem dX12_meltInSegment_34 : decode cX12_meltInSegment 34 = .ok (.aload_n 0, 1) := by decide +kernel
theorem dX12_meltInSegment_35 : decode cX12_meltInSegment 35 = .ok (.getfield 49, 3) := by decide +kernel
theorem dX12_meltInSegment_38 : decode cX12_meltInSegment 38 = .ok (.iload_n 2, 1) := by decide +kernel
theorem dX12_meltInSegment_39 : decode cX12_meltInSegment 39 = .ok (.iaload, 1) := by decide +kernel
theorem dX12_meltInSegment_40 : decode cX12_meltInSegment 40 = .ok (.invokevirtual 230, 3) := by decide +kernel
theorem dX12_meltInSegment_43 : decode cX12_meltInSegment 43 = .ok (.aload_n 0, 1) := by decide +kernel
theorem dX12_meltInSegment_44 : decode cX12_meltInSegment 44 = .ok (.aload_n 0, 1) := by decide +kernel
theorem dX12_meltInSegment_45 : decode cX12_meltInSegment 45 = .ok (.getfield 52, 3) := by decide +kernel
theorem dX12_meltInSegment_48 : decode cX12_meltInSegment 48 = .ok (.iload_n 2, 1) := by decide +kernel
theorem dX12_meltInSegment_49 : decode cX12_meltInSegment 49 = .ok (.iaload, 1) := by decide +kernel
theorem dX12_meltInSegment_50 : decode cX12_meltInSegment 50 = .ok (.invokevirtual 230, 3) := by decide +kernel
theorem dX12_meltInSegment_53 : decode cX12_meltInSegment 53 = .ok (.invokevirtual 407, 3) := by decide +kernel
theorem dX12_meltInSegment_56 : decode cX12_meltInSegment 56 = .ok (.ireturn, 1) := by decide +kernel
theorem dJ9_floorDiv_7cf53_0 : decode cJ9_floorDiv_7cf53 0 = .ok (.iload_n 0, 1) := by decide +kernel
theorem dJ9_floorDiv_7cf53_1 : decode cJ9_floorDiv_7cf53 1 = .ok (.iload_n 1, 1) := by decide +kernel
theorem dJ9_floorDiv_7cf53_2 : decode cJ9_floorDiv_7cf53 2 = .ok (.idiv, 1) := by decide +kernel
theorem dJ9_floorDiv_7cf53_3 : decode cJ9_floorDiv_7cf53 3 = .ok (.istore_n 2, 1) := by decide +kernel
theorem dJ9_floorDiv_7cf53_4 : decode cJ9_floorDiv_7cf53 4 = .ok (.iload_n 0, 1) := by decide +kernel
theorem dJ9_floorDiv_7cf53_5 : decode cJ9_floorDiv_7cf53 5 = .ok (.iload_n 1, 1) := by decide +kernel
theorem dJ9_floorDiv_7cf53_6 : decode cJ9_floorDiv_7cf53 6 = .ok (.ixor, 1) := by decide +kernel
theorem dJ9_floorDiv_7cf53_7 : decode cJ9_floorDiv_7cf53 7 = .ok (.ifCond .ge 14, 3) := by decide +kernel
theorem dJ9_floorDiv_7cf53_10 : decode cJ9_floorDiv_7cf53 10 = .ok (.iload_n 2, 1) := by decide +kernel
theorem dJ9_floorDiv_7cf53_11 : decode cJ9_floorDiv_7cf53 11 = .ok (.iload_n 1, 1) := by decide +kernel
theorem dJ9_floorDiv_7cf53_12 : decode cJ9_floorDiv_7cf53 12 = .ok (.imul, 1) := by decide +kernel
theorem dJ9_floorDiv_7cf53_13 : decode cJ9_floorDiv_7cf53 13 = .ok (.iload_n 0, 1) := by decide +kernel
theorem dJ9_floorDiv_7cf53_14 : decode cJ9_floorDiv_7cf53 14 = .ok (.if_icmp .eq 7, 3) := by decide +kernel
theorem dJ9_floorDiv_7cf53_17 : decode cJ9_floorDiv_7cf53 17 = .ok (.iload_n 2, 1) := by decide +kernel
theorem dJ9_floorDiv_7cf53_18 : decode cJ9_floorDiv_7cf53 18 = .ok (.iconst 1, 1) := by decide +kernel
theorem dJ9_floorDiv_7cf53_19 : decode cJ9_floorDiv_7cf53 19 = .ok (.isub, 1) := by decide +kernel
theorem dJ9_floorDiv_7cf53_20 : decode cJ9_floorDiv_7cf53 20 = .ok (.ireturn, 1) := by decide +kernel
theorem dJ9_floorDiv_7cf53_21 : decode cJ9_floorDiv_7cf53 21 = .ok (.iload_n 2, 1) := by decide +kernel
theorem dJ9_floorDiv_7cf53_22 : decode cJ9_floorDiv_7cf53 22 = .ok (.ireturn, 1) := by decide +kernel
theorem dJ9_floorMod_7cf53_0 : decode cJ9_floorMod_7cf53 0 = .ok (.iload_n 0, 1) := by decide +kernel
theorem dJ9_floorMod_7cf53_1 : decode cJ9_floorMod_7cf53 1 = .ok (.iload_n 1, 1) := by decide +kernel
theorem dJ9_floorMod_7cf53_2 : decode cJ9_floorMod_7cf53 2 = .ok (.irem, 1) := by decide +kernel
theorem dJ9_floorMod_7cf53_3 : decode cJ9_floorMod_7cf53 3 = .ok (.istore_n 2, 1) := by decide +kernel
theorem dJ9_floorMod_7cf53_4 : decode cJ9_floorMod_7cf53 4 = .ok (.iload_n 0, 1) := by decide +kernel
theorem dJ9_floorMod_7cf53_5 : decode cJ9_floorMod_7cf53 5 = .ok (.iload_n 1, 1) := by decide +kernel
theorem dJ9_floorMod_7cf53_6 : decode cJ9_floorMod_7cf53 6 = .ok (.ixor, 1) := by decide +kernel
theorem dJ9_floorMod_7cf53_7 : decode cJ9_floorMod_7cf53 7 = .ok (.ifCond .ge 11, 3) := by decide +kernel
theorem dJ9_floorMod_7cf53_10 : decode cJ9_floorMod_7cf53 10 = .ok (.iload_n 2, 1) := by decide +kernel
theorem dJ9_floorMod_7cf53_11 : decode cJ9_floorMod_7cf53 11 = .ok (.ifCond .eq 7, 3) := by decide +kernel
theorem dJ9_floorMod_7cf53_14 : decode cJ9_floorMod_7cf53 14 = .ok (.iload_n 2, 1) := by decide +kernel
theorem dJ9_floorMod_7cf53_15 : decode cJ9_floorMod_7cf53 15 = .ok (.iload_n 1, 1) := by decide +kernel
theorem dJ9_floorMod_7cf53_16 : decode cJ9_floorMod_7cf53 16 = .ok (.iadd, 1) := by decide +kernel
theorem dJ9_floorMod_7cf53_17 : decode cJ9_floorMod_7cf53 17 = .ok (.ireturn, 1) := by decide +kernel
theorem dJ9_floorMod_7cf53_18 : decode cJ9_floorMod_7cf53 18 = .ok (.iload_n 2, 1) := by decide +kernel
theorem dJ9_floorMod_7cf53_19 : decode cJ9_floorMod_7cf53 19 = .ok (.ireturn, 1) := by decide +kernel
theorem dJ9_abs_0f7a4_0 : decode cJ9_abs_0f7a4 0 = .ok (.iload_n 0, 1) := by decide +kernel
theorem dJ9_abs_0f7a4_1 : decode cJ9_abs_0f7a4 1 = .ok (.ifCond .ge 8, 3) := by decide +kernel
theorem dJ9_abs_0f7a4_4 : decode cJ9_abs_0f7a4 4 = .ok (.iload_n 0, 1) := by decide +kernel
theorem dJ9_abs_0f7a4_5 : decode cJ9_abs_0f7a4 5 = .ok (.ineg, 1) := by decide +kernel
theorem dJ9_abs_0f7a4_6 : decode cJ9_abs_0f7a4 6 = .ok (.goto 4, 3) := by decide +kernel
theorem dJ9_abs_0f7a4_9 : decode cJ9_abs_0f7a4 9 = .ok (.iload_n 0, 1) := by decide +kernel
theorem dJ9_abs_0f7a4_10 : decode cJ9_abs_0f7a4 10 = .ok (.ireturn, 1) := by decide +kernel
theorem dJ9_max_7cf53_0 : decode cJ9_max_7cf53 0 = .ok (.iload_n 0, 1) := by decide +kernel
theorem dJ9_max_7cf53_1 : decode cJ9_max_7cf53 1 = .ok (.iload_n 1, 1) := by decide +kernel
theorem dJ9_max_7cf53_2 : decode cJ9_max_7cf53 2 = .ok (.if_icmp .lt 7, 3) := by decide +kernel
theorem dJ9_max_7cf53_5 : decode cJ9_max_7cf53 5 = .ok (.iload_n 0, 1) := by decide +kernel
theorem dJ9_max_7cf53_6 : decode cJ9_max_7cf53 6 = .ok (.goto 4, 3) := by decide +kernel
theorem dJ9_max_7cf53_9 : decode cJ9_max_7cf53 9 = .ok (.iload_n 1, 1) := by decide +kernel
theorem dJ9_max_7cf53_10 : decode cJ9_max_7cf53 10 = .ok (.ireturn, 1) := by decide +kernel
theorem dJ9_min_7cf53_0 : decode cJ9_min_7cf53 0 = .ok (.iload_n 0, 1) := by decide +kernel
theorem dJ9_min_7cf53_1 : decode cJ9_min_7cf53 1 = .ok (.iload_n 1, 1) := by decide +kernel
theorem dJ9_min_7cf53_2 : decode cJ9_min_7cf53 2 = .ok (.if_icmp .gt 7, 3) := by decide +kernel
theorem dJ9_min_7cf53_5 : decode cJ9_min_7cf53 5 = .ok (.iload_n 0, 1) := by decide +kernel
theorem dJ9_min_7cf53_6 : decode cJ9_min_7cf53 6 = .ok (.goto 4, 3) := by decide +kernel
theorem dJ9_min_7cf53_9 : decode cJ9_min_7cf53 9 = .ok (.iload_n 1, 1) := by decide +kernel
theorem dJ9_min_7cf53_10 : decode cJ9_min_7cf53 10 = .ok (.ireturn, 1) := by decide +kernel
theorem dJ0_length_8abf5_0 : decode cJ0_length_8abf5 0 = .ok (.aload_n 0, 1) := by decide +kernel
theorem dJ0_length_8abf5_1 : decode cJ0_length_8abf5 1 = .ok (.getfield 9, 3) := by decide +kernel
theorem dJ0_length_8abf5_4 : decode cJ0_length_8abf5 4 = .ok (.arraylength, 1) := by decide +kernel
theorem dJ0_length_8abf5_5 : decode cJ0_length_8abf5 5 = .ok (.aload_n 0, 1) := by decide +kernel
theorem dJ0_length_8abf5_6 : decode cJ0_length_8abf5 6 = .ok (.invokevirtual 335, 3) := by decide +kernel
theorem dJ0_length_8abf5_9 : decode cJ0_length_8abf5 9 = .ok (.ishr, 1) := by decide +kernel
theorem dJ0_length_8abf5_10 : decode cJ0_length_8abf5 10 = .ok (.ireturn, 1) := by decide +kernel
theorem dJ0_charAt_5068e_0 : decode cJ0_charAt_5068e 0 = .ok (.aload_n 0, 1) := by decide +kernel
theorem dJ0_charAt_5068e_1 : decode cJ0_charAt_5068e 1 = .ok (.invokevirtual 492, 3) := by decide +kernel
theorem dJ0_charAt_5068e_4 : decode cJ0_charAt_5068e 4 = .ok (.ifCond .eq 12, 3) := by decide +kernel
theorem dJ0_charAt_5068e_7 : decode cJ0_charAt_5068e 7 = .ok (.aload_n 0, 1) := by decide +kernel
theorem dJ0_charAt_5068e_8 : decode cJ0_charAt_5068e 8 = .ok (.getfield 9, 3) := by decide +kernel
theorem dJ0_charAt_5068e_11 : decode cJ0_charAt_5068e 11 = .ok (.iload_n 1, 1) := by decide +kernel
theorem dJ0_charAt_5068e_12 : decode cJ0_charAt_5068e 12 = .ok (.invokestatic 495, 3) := by decide +kernel
theorem dJ0_charAt_5068e_15 : decode cJ0_charAt_5068e 15 = .ok (.ireturn, 1) := by decide +kernel
theorem dJ0_charAt_5068e_16 : decode cJ0_charAt_5068e 16 = .ok (.aload_n 0, 1) := by decide +kernel
theorem dJ0_charAt_5068e_17 : decode cJ0_charAt_5068e 17 = .ok (.getfield 9, 3) := by decide +kernel
theorem dJ0_charAt_5068e_20 : decode cJ0_charAt_5068e 20 = .ok (.iload_n 1, 1) := by decide +kernel
theorem dJ0_charAt_5068e_21 : decode cJ0_charAt_5068e 21 = .ok (.invokestatic 498, 3) := by decide +kernel
theorem dJ0_charAt_5068e_24 : decode cJ0_charAt_5068e 24 = .ok (.ireturn, 1) := by decide +kernel
theorem dJ0_coder_7d493_0 : decode cJ0_coder_7d493 0 = .ok (.getstatic 38, 3) := by decide +kernel
theorem dJ0_coder_7d493_3 : decode cJ0_coder_7d493 3 = .ok (.ifCond .eq 10, 3) := by decide +kernel
theorem dJ0_coder_7d493_6 : decode cJ0_coder_7d493 6 = .ok (.aload_n 0, 1) := by decide +kernel
theorem dJ0_coder_7d493_7 : decode cJ0_coder_7d493 7 = .ok (.getfield 15, 3) := by decide +kernel
theorem dJ0_coder_7d493_10 : decode cJ0_coder_7d493 10 = .ok (.goto 4, 3) := by decide +kernel
theorem dJ0_coder_7d493_13 : decode cJ0_coder_7d493 13 = .ok (.iconst 1, 1) := by decide +kernel
theorem dJ0_coder_7d493_14 : decode cJ0_coder_7d493 14 = .ok (.ireturn, 1) := by decide +kernel
theorem dJ0_isLatin1_aae02_0 : decode cJ0_isLatin1_aae02 0 = .ok (.getstatic 38, 3) := by decide +kernel
theorem dJ0_isLatin1_aae02_3 : decode cJ0_isLatin1_aae02 3 = .ok (.ifCond .eq 14, 3) := by decide +kernel
theorem dJ0_isLatin1_aae02_6 : decode cJ0_isLatin1_aae02 6 = .ok (.aload_n 0, 1) := by decide +kernel
theorem dJ0_isLatin1_aae02_7 : decode cJ0_isLatin1_aae02 7 = .ok (.getfield 15, 3) := by decide +kernel
theorem dJ0_isLatin1_aae02_10 : decode cJ0_isLatin1_aae02 10 = .ok (.ifCond .ne 7, 3) := by decide +kernel
theorem dJ0_isLatin1_aae02_13 : decode cJ0_isLatin1_aae02 13 = .ok (.iconst 1, 1) := by decide +kernel
theorem dJ0_isLatin1_aae02_14 : decode cJ0_isLatin1_aae02 14 = .ok (.goto 4, 3) := by decide +kernel
theorem dJ0_isLatin1_aae02_17 : decode cJ0_isLatin1_aae02 17 = .ok (.iconst 0, 1) := by decide +kernel
theorem dJ0_isLatin1_aae02_18 : decode cJ0_isLatin1_aae02 18 = .ok (.ireturn, 1) := by decide +kernel
theorem dJ0_checkIndex_df160_0 : decode cJ0_checkIndex_df160 0 = .ok (.iload_n 0, 1) := by decide +kernel
theorem dJ0_checkIndex_df160_1 : decode cJ0_checkIndex_df160 1 = .ok (.iload_n 1, 1) := by decide +kernel
theorem dJ0_checkIndex_df160_2 : decode cJ0_checkIndex_df160 2 = .ok (.getstatic 1053, 3) := by decide +kernel
theorem dJ0_checkIndex_df160_5 : decode cJ0_checkIndex_df160 5 = .ok (.invokestatic 1059, 3) := by decide +kernel
theorem dJ0_checkIndex_df160_8 : decode cJ0_checkIndex_df160 8 = .ok (.pop, 1) := by decide +kernel
theorem dJ0_checkIndex_df160_9 : decode cJ0_checkIndex_df160 9 = .ok (.return_, 1) := by decide +kernel
theorem dJ1_charAt_3b067_0 : decode cJ1_charAt_3b067 0 = .ok (.iload_n 1, 1) := by decide +kernel
theorem dJ1_charAt_3b067_1 : decode cJ1_charAt_3b067 1 = .ok (.aload_n 0, 1) := by decide +kernel
theorem dJ1_charAt_3b067_2 : decode cJ1_charAt_3b067 2 = .ok (.arraylength, 1) := by decide +kernel
theorem dJ1_charAt_3b067_3 : decode cJ1_charAt_3b067 3 = .ok (.invokestatic 9, 3) := by decide +kernel
theorem dJ1_charAt_3b067_6 : decode cJ1_charAt_3b067 6 = .ok (.aload_n 0, 1) := by decide +kernel
theorem dJ1_charAt_3b067_7 : decode cJ1_charAt_3b067 7 = .ok (.iload_n 1, 1) := by decide +kernel
theorem dJ1_charAt_3b067_8 : decode cJ1_charAt_3b067 8 = .ok (.baload, 1) := by decide +kernel
theorem dJ1_charAt_3b067_9 : decode cJ1_charAt_3b067 9 = .ok (.sipush 255, 3) := by decide +kernel
theorem dJ1_charAt_3b067_12 : decode cJ1_charAt_3b067 12 = .ok (.iand, 1) := by decide +kernel
theorem dJ1_charAt_3b067_13 : decode cJ1_charAt_3b067 13 = .ok (.i2c, 1) := by decide +kernel
theorem dJ1_charAt_3b067_14 : decode cJ1_charAt_3b067 14 = .ok (.ireturn, 1) := by decide +kernel
theorem dJ2_getChar_3b067_0 : decode cJ2_getChar_3b067 0 = .ok (.getstatic 44, 3) := by decide +kernel
theorem dJ2_getChar_3b067_3 : decode cJ2_getChar_3b067 3 = .ok (.ifCond .ne 25, 3) := by decide +kernel
theorem dJ2_getChar_3b067_6 : decode cJ2_getChar_3b067 6 = .ok (.iload_n 1, 1) := by decide +kernel
theorem dJ2_getChar_3b067_7 : decode cJ2_getChar_3b067 7 = .ok (.ifCond .lt 11, 3) := by decide +kernel
theorem dJ2_getChar_3b067_10 : decode cJ2_getChar_3b067 10 = .ok (.iload_n 1, 1) := by decide +kernel
theorem dJ2_getChar_3b067_11 : decode cJ2_getChar_3b067 11 = .ok (.aload_n 0, 1) := by decide +kernel
theorem dJ2_getChar_3b067_12 : decode cJ2_getChar_3b067 12 = .ok (.invokestatic 48, 3) := by decide +kernel
theorem dJ2_getChar_3b067_15 : decode cJ2_getChar_3b067 15 = .ok (.if_icmp .lt 13, 3) := by decide +kernel
theorem dJ2_getChar_3b067_18 : decode cJ2_getChar_3b067 18 = .ok (.new 52, 3) := by decide +kernel
theorem dJ2_getChar_3b067_21 : decode cJ2_getChar_3b067 21 = .ok (.dup, 1) := by decide +kernel
theorem dJ2_getChar_3b067_22 : decode cJ2_getChar_3b067 22 = .ok (.ldc 54, 2) := by decide +kernel
theorem dJ2_getChar_3b067_24 : decode cJ2_getChar_3b067 24 = .ok (.invokespecial 56, 3) := by decide +kernel
theorem dJ2_getChar_3b067_27 : decode cJ2_getChar_3b067 27 = .ok (.athrow, 1) := by decide +kernel
theorem dJ2_getChar_3b067_28 : decode cJ2_getChar_3b067 28 = .ok (.iload_n 1, 1) := by decide +kernel
theorem dJ2_getChar_3b067_29 : decode cJ2_getChar_3b067 29 = .ok (.iconst 1, 1) := by decide +kernel
theorem dJ2_getChar_3b067_30 : decode cJ2_getChar_3b067 30 = .ok (.ishl, 1) := by decide +kernel
theorem dJ2_getChar_3b067_31 : decode cJ2_getChar_3b067 31 = .ok (.istore_n 1, 1) := by decide +kernel
theorem dJ2_getChar_3b067_32 : decode cJ2_getChar_3b067 32 = .ok (.aload_n 0, 1) := by decide +kernel
theorem dJ2_getChar_3b067_33 : decode cJ2_getChar_3b067 33 = .ok (.iload_n 1, 1) := by decide +kernel
theorem dJ2_getChar_3b067_34 : decode cJ2_getChar_3b067 34 = .ok (.iinc 1 1, 3) := by decide +kernel
theorem dJ2_getChar_3b067_37 : decode cJ2_getChar_3b067 37 = .ok (.baload, 1) := by decide +kernel
theorem dJ2_getChar_3b067_38 : decode cJ2_getChar_3b067 38 = .ok (.sipush 255, 3) := by decide +kernel
theorem dJ2_getChar_3b067_41 : decode cJ2_getChar_3b067 41 = .ok (.iand, 1) := by decide +kernel
theorem dJ2_getChar_3b067_42 : decode cJ2_getChar_3b067 42 = .ok (.getstatic 59, 3) := by decide +kernel
theorem dJ2_getChar_3b067_45 : decode cJ2_getChar_3b067 45 = .ok (.ishl, 1) := by decide +kernel
theorem dJ2_getChar_3b067_46 : decode cJ2_getChar_3b067 46 = .ok (.aload_n 0, 1) := by decide +kernel
theorem dJ2_getChar_3b067_47 : decode cJ2_getChar_3b067 47 = .ok (.iload_n 1, 1) := by decide +kernel
theorem dJ2_getChar_3b067_48 : decode cJ2_getChar_3b067 48 = .ok (.baload, 1) := by decide +kernel
theorem dJ2_getChar_3b067_49 : decode cJ2_getChar_3b067 49 = .ok (.sipush 255, 3) := by decide +kernel
theorem dJ2_getChar_3b067_52 : decode cJ2_getChar_3b067 52 = .ok (.iand, 1) := by decide +kernel
theorem dJ2_getChar_3b067_53 : decode cJ2_getChar_3b067 53 = .ok (.getstatic 63, 3) := by decide +kernel
theorem dJ2_getChar_3b067_56 : decode cJ2_getChar_3b067 56 = .ok (.ishl, 1) := by decide +kernel
theorem dJ2_getChar_3b067_57 : decode cJ2_getChar_3b067 57 = .ok (.ior, 1) := by decide +kernel
theorem dJ2_getChar_3b067_58 : decode cJ2_getChar_3b067 58 = .ok (.i2c, 1) := by decide +kernel
theorem dJ2_getChar_3b067_59 : decode cJ2_getChar_3b067 59 = .ok (.ireturn, 1) := by decide +kernel
theorem dJ2_length_9d52b_0 : decode cJ2_length_9d52b 0 = .ok (.aload_n 0, 1) := by decide +kernel
theorem dJ2_length_9d52b_1 : decode cJ2_length_9d52b 1 = .ok (.arraylength, 1) := by decide +kernel
theorem dJ2_length_9d52b_2 : decode cJ2_length_9d52b 2 = .ok (.iconst 1, 1) := by decide +kernel
theorem dJ2_length_9d52b_3 : decode cJ2_length_9d52b 3 = .ok (.ishr, 1) := by decide +kernel
theorem dJ2_length_9d52b_4 : decode cJ2_length_9d52b 4 = .ok (.ireturn, 1) := by decide +kernel
theorem dJ2_charAt_3b067_0 : decode cJ2_charAt_3b067 0 = .ok (.iload_n 1, 1) := by decide +kernel
theorem dJ2_charAt_3b067_1 : decode cJ2_charAt_3b067 1 = .ok (.aload_n 0, 1) := by decide +kernel
theorem dJ2_charAt_3b067_2 : decode cJ2_charAt_3b067 2 = .ok (.invokestatic 67, 3) := by decide +kernel
theorem dJ2_charAt_3b067_5 : decode cJ2_charAt_3b067 5 = .ok (.aload_n 0, 1) := by decide +kernel
theorem dJ2_charAt_3b067_6 : decode cJ2_charAt_3b067 6 = .ok (.iload_n 1, 1) := by decide +kernel
theorem dJ2_charAt_3b067_7 : decode cJ2_charAt_3b067 7 = .ok (.invokestatic 71, 3) := by decide +kernel
theorem dJ2_charAt_3b067_10 : decode cJ2_charAt_3b067 10 = .ok (.ireturn, 1) := by decide +kernel
theorem dJ2_checkIndex_2214a_0 : decode cJ2_checkIndex_2214a 0 = .ok (.iload_n 0, 1) := by decide +kernel
theorem dJ2_checkIndex_2214a_1 : decode cJ2_checkIndex_2214a 1 = .ok (.aload_n 1, 1) := by decide +kernel
theorem dJ2_checkIndex_2214a_2 : decode cJ2_checkIndex_2214a 2 = .ok (.invokestatic 48, 3) := by decide +kernel
theorem dJ2_checkIndex_2214a_5 : decode cJ2_checkIndex_2214a 5 = .ok (.invokestatic 414, 3) := by decide +kernel
theorem dJ2_checkIndex_2214a_8 : decode cJ2_checkIndex_2214a 8 = .ok (.return_, 1) := by decide +kernel
theorem dJ3_checkIndex_8e157_0 : decode cJ3_checkIndex_8e157 0 = .ok (.iload_n 0, 1) := by decide +kernel
theorem dJ3_checkIndex_8e157_1 : decode cJ3_checkIndex_8e157 1 = .ok (.ifCond .lt 8, 3) := by decide +kernel
theorem dJ3_checkIndex_8e157_4 : decode cJ3_checkIndex_8e157 4 = .ok (.iload_n 0, 1) := by decide +kernel
theorem dJ3_checkIndex_8e157_5 : decode cJ3_checkIndex_8e157 5 = .ok (.iload_n 1, 1) := by decide +kernel
theorem dJ3_checkIndex_8e157_6 : decode cJ3_checkIndex_8e157 6 = .ok (.if_icmp .lt 10, 3) := by decide +kernel
theorem dJ3_checkIndex_8e157_9 : decode cJ3_checkIndex_8e157 9 = .ok (.aload_n 2, 1) := by decide +kernel
theorem dJ3_checkIndex_8e157_10 : decode cJ3_checkIndex_8e157 10 = .ok (.iload_n 0, 1) := by decide +kernel
theorem dJ3_checkIndex_8e157_11 : decode cJ3_checkIndex_8e157 11 = .ok (.iload_n 1, 1) := by decide +kernel
theorem dJ3_checkIndex_8e157_12 : decode cJ3_checkIndex_8e157 12 = .ok (.invokestatic 95, 3) := by decide +kernel
theorem dJ3_checkIndex_8e157_15 : decode cJ3_checkIndex_8e157 15 = .ok (.athrow, 1) := by decide +kernel
theorem dJ3_checkIndex_8e157_16 : decode cJ3_checkIndex_8e157 16 = .ok (.iload_n 0, 1) := by decide +kernel
theorem dJ3_checkIndex_8e157_17 : decode cJ3_checkIndex_8e157 17 = .ok (.ireturn, 1) := by decide +kernel
