theorem dX11_load_1 : decode cX11_load 1 = .ok (.getfield 19, 3) := by decide +kernel
theorem dX11_load_4 : decode cX11_load 4 = .ok (.getfield 62, 3) := by decide +kernel
theorem dX11_load_7 : decode cX11_load 7 = .ok (.astore_n 2, 1) := by decide +kernel
theorem dX11_load_8 : decode cX11_load 8 = .ok (.iload_n 1, 1) := by decide +kernel
theorem dX11_load_9 : decode cX11_load 9 = .ok (.ifCond .lt 11, 3) := by decide +kernel
theorem dX11_load_12 : decode cX11_load 12 = .ok (.iload_n 1, 1) := by decide +kernel
theorem dX11_load_13 : decode cX11_load 13 = .ok (.aload_n 2, 1) := by decide +kernel
theorem dX11_load_14 : decode cX11_load 14 = .ok (.getfield 66, 3) := by decide +kernel
theorem dX11_load_17 : decode cX11_load 17 = .ok (.if_icmp .le 6, 3) := by decide +kernel
theorem dX11_load_20 : decode cX11_load 20 = .ok (.bipush (-2), 2) := by decide +kernel
theorem dX11_load_22 : decode cX11_load 22 = .ok (.ireturn, 1) := by decide +kernel
theorem dX11_load_23 : decode cX11_load 23 = .ok (.aload_n 0, 1) := by decide +kernel
theorem dX11_load_24 : decode cX11_load 24 = .ok (.getfield 19, 3) := by decide +kernel
theorem dX11_load_27 : decode cX11_load 27 = .ok (.iload_n 1, 1) := by decide +kernel
theorem dX11_load_28 : decode cX11_load 28 = .ok (.invokevirtual 75, 3) := by decide +kernel
theorem dX11_load_31 : decode cX11_load 31 = .ok (.istore_n 3, 1) := by decide +kernel
theorem dX11_load_32 : decode cX11_load 32 = .ok (.aload_n 2, 1) := by decide +kernel
theorem dX11_load_33 : decode cX11_load 33 = .ok (.iconst 0, 1) := by decide +kernel
theorem dX11_load_34 : decode cX11_load 34 = .ok (.putfield 66, 3) := by decide +kernel
theorem dX11_load_37 : decode cX11_load 37 = .ok (.iload_n 3, 1) := by decide +kernel
theorem dX11_load_38 : decode cX11_load 38 = .ok (.ifCond .ge 13, 3) := by decide +kernel
theorem dX11_load_41 : decode cX11_load 41 = .ok (.aload_n 0, 1) := by decide +kernel
theorem dX11_load_42 : decode cX11_load 42 = .ok (.aload_n 2, 1) := by decide +kernel
theorem dX11_load_43 : decode cX11_load 43 = .ok (.getfield 79, 3) := by decide +kernel
theorem dX11_load_46 : decode cX11_load 46 = .ok (.putfield 55, 3) := by decide +kernel
theorem dX11_load_49 : decode cX11_load 49 = .ok (.iload_n 3, 1) := by decide +kernel
theorem dX11_load_50 : decode cX11_load 50 = .ok (.ireturn, 1) := by decide +kernel
theorem dX11_load_51 : decode cX11_load 51 = .ok (.aload_n 0, 1) := by decide +kernel
theorem dX11_load_52 : decode cX11_load 52 = .ok (.iconst (-1), 1) := by decide +kernel
theorem dX11_load_53 : decode cX11_load 53 = .ok (.putfield 55, 3) := by decide +kernel
theorem dX11_load_56 : decode cX11_load 56 = .ok (.aload_n 0, 1) := by decide +kernel
theorem dX11_load_57 : decode cX11_load 57 = .ok (.aload_n 0, 1) := by decide +kernel
theorem dX11_load_58 : decode cX11_load 58 = .ok (.getfield 19, 3) := by decide +kernel
theorem dX11_load_61 : decode cX11_load 61 = .ok (.aload_n 0, 1) := by decide +kernel
theorem dX11_load_62 : decode cX11_load 62 = .ok (.getfield 10, 3) := by decide +kernel
theorem dX11_load_65 : decode cX11_load 65 = .ok (.invokevirtual 82, 3) := by decide +kernel
theorem dX11_load_68 : decode cX11_load 68 = .ok (.putfield 10, 3) := by decide +kernel
theorem dX11_load_71 : decode cX11_load 71 = .ok (.aload_n 0, 1) := by decide +kernel
theorem dX11_load_72 : decode cX11_load 72 = .ok (.getfield 26, 3) := by decide +kernel
theorem dX11_load_75 : decode cX11_load 75 = .ok (.invokevirtual 86, 3) := by decide +kernel
theorem dX11_load_78 : decode cX11_load 78 = .ok (.aload_n 0, 1) := by decide +kernel
theorem dX11_load_79 : decode cX11_load 79 = .ok (.dup, 1) := by decide +kernel
theorem dX11_load_80 : decode cX11_load 80 = .ok (.getfield 59, 3) := by decide +kernel
theorem dX11_load_83 : decode cX11_load 83 = .ok (.iconst 1, 1) := by decide +kernel
theorem dX11_load_84 : decode cX11_load 84 = .ok (.iadd, 1) := by decide +kernel
theorem dX11_load_85 : decode cX11_load 85 = .ok (.putfield 59, 3) := by decide +kernel
theorem dX11_load_88 : decode cX11_load 88 = .ok (.iload_n 3, 1) := by decide +kernel
theorem dX11_load_89 : decode cX11_load 89 = .ok (.ireturn, 1) := by decide +kernel
theorem dX11_errorPosition_0 : decode cX11_errorPosition 0 = .ok (.aload_n 0, 1) := by decide +kernel
theorem dX11_errorPosition_1 : decode cX11_errorPosition 1 = .ok (.getfield 55, 3) := by decide +kernel
theorem dX11_errorPosition_4 : decode cX11_errorPosition 4 = .ok (.ireturn, 1) := by decide +kernel
theorem dX11_width_0 : decode cX11_width 0 = .ok (.aload_n 0, 1) := by decide +kernel
theorem dX11_width_1 : decode cX11_width 1 = .ok (.getfield 10, 3) := by decide +kernel
theorem dX11_width_4 : decode cX11_width 4 = .ok (.getfield 89, 3) := by decide +kernel
theorem dX11_width_7 : decode cX11_width 7 = .ok (.ireturn, 1) := by decide +kernel
theorem dX11_height_0 : decode cX11_height 0 = .ok (.aload_n 0, 1) := by decide +kernel
theorem dX11_height_1 : decode cX11_height 1 = .ok (.getfield 10, 3) := by decide +kernel
theorem dX11_height_4 : decode cX11_height 4 = .ok (.getfield 92, 3) := by decide +kernel
theorem dX11_height_7 : decode cX11_height 7 = .ok (.ireturn, 1) := by decide +kernel
theorem dX11_frameCount_0 : decode cX11_frameCount 0 = .ok (.aload_n 0, 1) := by decide +kernel
theorem dX11_frameCount_1 : decode cX11_frameCount 1 = .ok (.getfield 10, 3) := by decide +kernel
theorem dX11_frameCount_4 : decode cX11_frameCount 4 = .ok (.getfield 95, 3) := by decide +kernel
theorem dX11_frameCount_7 : decode cX11_frameCount 7 = .ok (.ireturn, 1) := by decide +kernel
theorem dX11_controlCount_0 : decode cX11_controlCount 0 = .ok (.aload_n 0, 1) := by decide +kernel
theorem dX11_controlCount_1 : decode cX11_controlCount 1 = .ok (.getfield 10, 3) := by decide +kernel
theorem dX11_controlCount_4 : decode cX11_controlCount 4 = .ok (.getfield 98, 3) := by decide +kernel
theorem dX11_controlCount_7 : decode cX11_controlCount 7 = .ok (.getfield 102, 3) := by decide +kernel
theorem dX11_controlCount_10 : decode cX11_controlCount 10 = .ok (.ireturn, 1) := by decide +kernel
theorem dX11_featureCount_0 : decode cX11_featureCount 0 = .ok (.aload_n 0, 1) := by decide +kernel
theorem dX11_featureCount_1 : decode cX11_featureCount 1 = .ok (.getfield 10, 3) := by decide +kernel
theorem dX11_featureCount_4 : decode cX11_featureCount 4 = .ok (.getfield 107, 3) := by decide +kernel
theorem dX11_featureCount_7 : decode cX11_featureCount 7 = .ok (.getfield 102, 3) := by decide +kernel
theorem dX11_featureCount_10 : decode cX11_featureCount 10 = .ok (.ireturn, 1) := by decide +kernel
theorem dX11_stakeCount_0 : decode cX11_stakeCount 0 = .ok (.aload_n 0, 1) := by decide +kernel
theorem dX11_stakeCount_1 : decode cX11_stakeCount 1 = .ok (.getfield 10, 3) := by decide +kernel
theorem dX11_stakeCount_4 : decode cX11_stakeCount 4 = .ok (.getfield 110, 3) := by decide +kernel
theorem dX11_stakeCount_7 : decode cX11_stakeCount 7 = .ok (.ireturn, 1) := by decide +kernel
theorem dX11_getSetting_0 : decode cX11_getSetting 0 = .ok (.iload_n 1, 1) := by decide +kernel
theorem dX11_getSetting_1 : decode cX11_getSetting 1 = .ok (.invokestatic 113, 3) := by decide +kernel
theorem dX11_getSetting_4 : decode cX11_getSetting 4 = .ok (.ifCond .eq 15, 3) := by decide +kernel
theorem dX11_getSetting_7 : decode cX11_getSetting 7 = .ok (.aload_n 0, 1) := by decide +kernel
theorem dX11_getSetting_8 : decode cX11_getSetting 8 = .ok (.getfield 10, 3) := by decide +kernel
theorem dX11_getSetting_11 : decode cX11_getSetting 11 = .ok (.getfield 117, 3) := by decide +kernel
theorem dX11_getSetting_14 : decode cX11_getSetting 14 = .ok (.iload_n 1, 1) := by decide +kernel
theorem dX11_getSetting_15 : decode cX11_getSetting 15 = .ok (.iaload, 1) := by decide +kernel
theorem dX11_getSetting_16 : decode cX11_getSetting 16 = .ok (.goto 5, 3) := by decide +kernel
theorem dX11_getSetting_19 : decode cX11_getSetting 19 = .ok (.bipush (-2), 2) := by decide +kernel
theorem dX11_getSetting_21 : decode cX11_getSetting 21 = .ok (.ireturn, 1) := by decide +kernel
theorem dX11_setSetting_0 : decode cX11_setSetting 0 = .ok (.iload_n 1, 1) := by decide +kernel
theorem dX11_setSetting_1 : decode cX11_setSetting 1 = .ok (.invokestatic 113, 3) := by decide +kernel
theorem dX11_setSetting_4 : decode cX11_setSetting 4 = .ok (.ifCond .eq 20, 3) := by decide +kernel
theorem dX11_setSetting_7 : decode cX11_setSetting 7 = .ok (.iload_n 2, 1) := by decide +kernel
theorem dX11_setSetting_8 : decode cX11_setSetting 8 = .ok (.getstatic 121, 3) := by decide +kernel
theorem dX11_setSetting_11 : decode cX11_setSetting 11 = .ok (.iload_n 1, 1) := by decide +kernel
theorem dX11_setSetting_12 : decode cX11_setSetting 12 = .ok (.iaload, 1) := by decide +kernel
theorem dX11_setSetting_13 : decode cX11_setSetting 13 = .ok (.getstatic 124, 3) := by decide +kernel
theorem dX11_setSetting_16 : decode cX11_setSetting 16 = .ok (.iload_n 1, 1) := by decide +kernel
theorem dX11_setSetting_17 : decode cX11_setSetting 17 = .ok (.iaload, 1) := by decide +kernel
theorem dX11_setSetting_18 : decode cX11_setSetting 18 = .ok (.invokestatic 127, 3) := by decide +kernel
theorem dX11_setSetting_21 : decode cX11_setSetting 21 = .ok (.ifCond .ne 6, 3) := by decide +kernel
theorem dX11_setSetting_24 : decode cX11_setSetting 24 = .ok (.bipush (-2), 2) := by decide +kernel
theorem dX11_setSetting_26 : decode cX11_setSetting 26 = .ok (.ireturn, 1) := by decide +kernel
theorem dX11_setSetting_27 : decode cX11_setSetting 27 = .ok (.aload_n 0, 1) := by decide +kernel
theorem dX11_setSetting_28 : decode cX11_setSetting 28 = .ok (.getfield 10, 3) := by decide +kernel
theorem dX11_setSetting_31 : decode cX11_setSetting 31 = .ok (.getfield 117, 3) := by decide +kernel
theorem dX11_setSetting_34 : decode cX11_setSetting 34 = .ok (.iload_n 1, 1) := by decide +kernel
theorem dX11_setSetting_35 : decode cX11_setSetting 35 = .ok (.iaload, 1) := by decide +kernel
theorem dX11_setSetting_36 : decode cX11_setSetting 36 = .ok (.istore_n 3, 1) := by decide +kernel
theorem dX11_setSetting_37 : decode cX11_setSetting 37 = .ok (.aload_n 0, 1) := by decide +kernel
theorem dX11_setSetting_38 : decode cX11_setSetting 38 = .ok (.iconst 0, 1) := by decide +kernel
theorem dX11_setSetting_39 : decode cX11_setSetting 39 = .ok (.iload_n 1, 1) := by decide +kernel
theorem dX11_setSetting_40 : decode cX11_setSetting 40 = .ok (.iconst 0, 1) := by decide +kernel
theorem dX11_setSetting_41 : decode cX11_setSetting 41 = .ok (.iconst 0, 1) := by decide +kernel
theorem dX11_setSetting_42 : decode cX11_setSetting 42 = .ok (.iload_n 3, 1) := by decide +kernel
theorem dX11_setSetting_43 : decode cX11_setSetting 43 = .ok (.invokevirtual 133, 3) := by decide +kernel
theorem dX11_setSetting_46 : decode cX11_setSetting 46 = .ok (.aload_n 0, 1) := by decide +kernel
theorem dX11_setSetting_47 : decode cX11_setSetting 47 = .ok (.getfield 10, 3) := by decide +kernel
theorem dX11_setSetting_50 : decode cX11_setSetting 50 = .ok (.getfield 117, 3) := by decide +kernel
theorem dX11_setSetting_53 : decode cX11_setSetting 53 = .ok (.iload_n 1, 1) := by decide +kernel
theorem dX11_setSetting_54 : decode cX11_setSetting 54 = .ok (.iload_n 2, 1) := by decide +kernel
theorem dX11_setSetting_55 : decode cX11_setSetting 55 = .ok (.iastore, 1) := by decide +kernel
theorem dX11_setSetting_56 : decode cX11_setSetting 56 = .ok (.iload_n 3, 1) := by decide +kernel
theorem dX11_setSetting_57 : decode cX11_setSetting 57 = .ok (.ireturn, 1) := by decide +kernel
theorem dX11_frameDay_0 : decode cX11_frameDay 0 = .ok (.aload_n 0, 1) := by decide +kernel
theorem dX11_frameDay_1 : decode cX11_frameDay 1 = .ok (.iload_n 1, 1) := by decide +kernel
theorem dX11_frameDay_2 : decode cX11_frameDay 2 = .ok (.invokevirtual 137, 3) := by decide +kernel
theorem dX11_frameDay_5 : decode cX11_frameDay 5 = .ok (.aload_n 0, 1) := by decide +kernel
theorem dX11_frameDay_6 : decode cX11_frameDay 6 = .ok (.getfield 10, 3) := by decide +kernel
theorem dX11_frameDay_9 : decode cX11_frameDay 9 = .ok (.iload_n 1, 1) := by decide +kernel
theorem dX11_frameDay_10 : decode cX11_frameDay 10 = .ok (.invokevirtual 140, 3) := by decide +kernel
theorem dX11_frameDay_13 : decode cX11_frameDay 13 = .ok (.ireturn, 1) := by decide +kernel
theorem dX11_pixel_0 : decode cX11_pixel 0 = .ok (.aload_n 0, 1) := by decide +kernel
theorem dX11_pixel_1 : decode cX11_pixel 1 = .ok (.iload_n 1, 1) := by decide +kernel
theorem dX11_pixel_2 : decode cX11_pixel 2 = .ok (.invokevirtual 137, 3) := by decide +kernel
theorem dX11_pixel_5 : decode cX11_pixel 5 = .ok (.aload_n 0, 1) := by decide +kernel
theorem dX11_pixel_6 : decode cX11_pixel 6 = .ok (.iload_n 2, 1) := by decide +kernel
theorem dX11_pixel_7 : decode cX11_pixel 7 = .ok (.iload_n 3, 1) := by decide +kernel
theorem dX11_pixel_8 : decode cX11_pixel 8 = .ok (.invokevirtual 143, 3) := by decide +kernel
theorem dX11_pixel_11 : decode cX11_pixel 11 = .ok (.aload_n 0, 1) := by decide +kernel
theorem dX11_pixel_12 : decode cX11_pixel 12 = .ok (.getfield 10, 3) := by decide +kernel
theorem dX11_pixel_15 : decode cX11_pixel 15 = .ok (.iload_n 1, 1) := by decide +kernel
theorem dX11_pixel_16 : decode cX11_pixel 16 = .ok (.iload_n 2, 1) := by decide +kernel
theorem dX11_pixel_17 : decode cX11_pixel 17 = .ok (.iload_n 3, 1) := by decide +kernel
theorem dX11_pixel_18 : decode cX11_pixel 18 = .ok (.invokevirtual 147, 3) := by decide +kernel
theorem dX11_pixel_21 : decode cX11_pixel 21 = .ok (.ireturn, 1) := by decide +kernel
theorem dX11_setPixel_0 : decode cX11_setPixel 0 = .ok (.aload_n 0, 1) := by decide +kernel
theorem dX11_setPixel_1 : decode cX11_setPixel 1 = .ok (.getfield 10, 3) := by decide +kernel
theorem dX11_setPixel_4 : decode cX11_setPixel 4 = .ok (.iload_n 1, 1) := by decide +kernel
theorem dX11_setPixel_5 : decode cX11_setPixel 5 = .ok (.invokevirtual 151, 3) := by decide +kernel
theorem dX11_setPixel_8 : decode cX11_setPixel 8 = .ok (.ifCond .eq 26, 3) := by decide +kernel
theorem dX11_setPixel_11 : decode cX11_setPixel 11 = .ok (.aload_n 0, 1) := by decide +kernel
theorem dX11_setPixel_12 : decode cX11_setPixel 12 = .ok (.getfield 10, 3) := by decide +kernel
theorem dX11_setPixel_15 : decode cX11_setPixel 15 = .ok (.iload_n 2, 1) := by decide +kernel
theorem dX11_setPixel_16 : decode cX11_setPixel 16 = .ok (.iload_n 3, 1) := by decide +kernel
theorem dX11_setPixel_17 : decode cX11_setPixel 17 = .ok (.invokevirtual 154, 3) := by decide +kernel
theorem dX11_setPixel_20 : decode cX11_setPixel 20 = .ok (.ifCond .eq 14, 3) := by decide +kernel
theorem dX11_setPixel_23 : decode cX11_setPixel 23 = .ok (.iload 4, 2) := by decide +kernel
theorem dX11_setPixel_25 : decode cX11_setPixel 25 = .ok (.iconst 0, 1) := by decide +kernel
theorem dX11_setPixel_26 : decode cX11_setPixel 26 = .ok (.bipush 9, 2) := by decide +kernel
theorem dX11_setPixel_28 : decode cX11_setPixel 28 = .ok (.invokestatic 127, 3) := by decide +kernel
theorem dX11_setPixel_31 : decode cX11_setPixel 31 = .ok (.ifCond .ne 5, 3) := by decide +kernel
theorem dX11_setPixel_34 : decode cX11_setPixel 34 = .ok (.iconst 0, 1) := by decide +kernel
theorem dX11_setPixel_35 : decode cX11_setPixel 35 = .ok (.ireturn, 1) := by decide +kernel
theorem dX11_setPixel_36 : decode cX11_setPixel 36 = .ok (.aload_n 0, 1) := by decide +kernel
theorem dX11_setPixel_37 : decode cX11_setPixel 37 = .ok (.iconst 1, 1) := by decide +kernel
theorem dX11_setPixel_38 : decode cX11_setPixel 38 = .ok (.iload_n 1, 1) := by decide +kernel
theorem dX11_setPixel_39 : decode cX11_setPixel 39 = .ok (.iload_n 2, 1) := by decide +kernel
theorem dX11_setPixel_40 : decode cX11_setPixel 40 = .ok (.iload_n 3, 1) := by decide +kernel
theorem dX11_setPixel_41 : decode cX11_setPixel 41 = .ok (.aload_n 0, 1) := by decide +kernel
theorem dX11_setPixel_42 : decode cX11_setPixel 42 = .ok (.getfield 10, 3) := by decide +kernel
theorem dX11_setPixel_45 : decode cX11_setPixel 45 = .ok (.iload_n 1, 1) := by decide +kernel
theorem dX11_setPixel_46 : decode cX11_setPixel 46 = .ok (.iload_n 2, 1) := by decide +kernel
theorem dX11_setPixel_47 : decode cX11_setPixel 47 = .ok (.iload_n 3, 1) := by decide +kernel
theorem dX11_setPixel_48 : decode cX11_setPixel 48 = .ok (.invokevirtual 147, 3) := by decide +kernel
theorem dX11_setPixel_51 : decode cX11_setPixel 51 = .ok (.invokevirtual 133, 3) := by decide +kernel
theorem dX11_setPixel_54 : decode cX11_setPixel 54 = .ok (.aload_n 0, 1) := by decide +kernel
theorem dX11_setPixel_55 : decode cX11_setPixel 55 = .ok (.getfield 10, 3) := by decide +kernel
theorem dX11_setPixel_58 : decode cX11_setPixel 58 = .ok (.iload_n 1, 1) := by decide +kernel
theorem dX11_setPixel_59 : decode cX11_setPixel 59 = .ok (.iload_n 2, 1) := by decide +kernel
theorem dX11_setPixel_60 : decode cX11_setPixel 60 = .ok (.iload_n 3, 1) := by decide +kernel
theorem dX11_setPixel_61 : decode cX11_setPixel 61 = .ok (.iload 4, 2) := by decide +kernel
theorem dX11_setPixel_63 : decode cX11_setPixel 63 = .ok (.invokevirtual 158, 3) := by decide +kernel
theorem dX11_setPixel_66 : decode cX11_setPixel 66 = .ok (.iconst 1, 1) := by decide +kernel
theorem dX11_setPixel_67 : decode cX11_setPixel 67 = .ok (.ireturn, 1) := by decide +kernel
theorem dX11_removeFrame_0 : decode cX11_removeFrame 0 = .ok (.aload_n 0, 1) := by decide +kernel
theorem dX11_removeFrame_1 : decode cX11_removeFrame 1 = .ok (.getfield 10, 3) := by decide +kernel
theorem dX11_removeFrame_4 : decode cX11_removeFrame 4 = .ok (.iload_n 1, 1) := by decide +kernel
theorem dX11_removeFrame_5 : decode cX11_removeFrame 5 = .ok (.invokevirtual 151, 3) := by decide +kernel
theorem dX11_removeFrame_8 : decode cX11_removeFrame 8 = .ok (.ifCond .ne 5, 3) := by decide +kernel
theorem dX11_removeFrame_11 : decode cX11_removeFrame 11 = .ok (.iconst (-1), 1) := by decide +kernel
theorem dX11_removeFrame_12 : decode cX11_removeFrame 12 = .ok (.ireturn, 1) := by decide +kernel
theorem dX11_removeFrame_13 : decode cX11_removeFrame 13 = .ok (.aload_n 0, 1) := by decide +kernel
theorem dX11_removeFrame_14 : decode cX11_removeFrame 14 = .ok (.iconst 2, 1) := by decide +kernel
theorem dX11_removeFrame_15 : decode cX11_removeFrame 15 = .ok (.iload_n 1, 1) := by decide +kernel
theorem dX11_removeFrame_16 : decode cX11_removeFrame 16 = .ok (.iconst 0, 1) := by decide +kernel
theorem dX11_removeFrame_17 : decode cX11_removeFrame 17 = .ok (.iconst 0, 1) := by decide +kernel
theorem dX11_removeFrame_18 : decode cX11_removeFrame 18 = .ok (.iconst 0, 1) := by decide +kernel
theorem dX11_removeFrame_19 : decode cX11_removeFrame 19 = .ok (.invokevirtual 133, 3) := by decide +kernel
theorem dX11_removeFrame_22 : decode cX11_removeFrame 22 = .ok (.aload_n 0, 1) := by decide +kernel
theorem dX11_removeFrame_23 : decode cX11_removeFrame 23 = .ok (.getfield 10, 3) := by decide +kernel
theorem dX11_removeFrame_26 : decode cX11_removeFrame 26 = .ok (.iload_n 1, 1) := by decide +kernel
theorem dX11_removeFrame_27 : decode cX11_removeFrame 27 = .ok (.invokevirtual 162, 3) := by decide +kernel
theorem dX11_removeFrame_30 : decode cX11_removeFrame 30 = .ok (.aload_n 0, 1) := by decide +kernel
theorem dX11_removeFrame_31 : decode cX11_removeFrame 31 = .ok (.getfield 10, 3) := by decide +kernel
theorem dX11_removeFrame_34 : decode cX11_removeFrame 34 = .ok (.getfield 95, 3) := by decide +kernel
theorem dX11_removeFrame_37 : decode cX11_removeFrame 37 = .ok (.ireturn, 1) := by decide +kernel
theorem dX11_contrast_0 : decode cX11_contrast 0 = .ok (.aload_n 0, 1) := by decide +kernel
theorem dX11_contrast_1 : decode cX11_contrast 1 = .ok (.iload_n 1, 1) := by decide +kernel
theorem dX11_contrast_2 : decode cX11_contrast 2 = .ok (.invokevirtual 137, 3) := by decide +kernel
theorem dX11_contrast_5 : decode cX11_contrast 5 = .ok (.aload_n 0, 1) := by decide +kernel
theorem dX11_contrast_6 : decode cX11_contrast 6 = .ok (.getfield 10, 3) := by decide +kernel
theorem dX11_contrast_9 : decode cX11_contrast 9 = .ok (.iload_n 1, 1) := by decide +kernel
theorem dX11_contrast_10 : decode cX11_contrast 10 = .ok (.invokevirtual 165, 3) := by decide +kernel
theorem dX11_contrast_13 : decode cX11_contrast 13 = .ok (.ireturn, 1) := by decide +kernel
theorem dX11_isUsable_0 : decode cX11_isUsable 0 = .ok (.aload_n 0, 1) := by decide +kernel
theorem dX11_isUsable_1 : decode cX11_isUsable 1 = .ok (.iload_n 1, 1) := by decide +kernel
theorem dX11_isUsable_2 : decode cX11_isUsable 2 = .ok (.invokevirtual 137, 3) := by decide +kernel
theorem dX11_isUsable_5 : decode cX11_isUsable 5 = .ok (.aload_n 0, 1) := by decide +kernel
theorem dX11_isUsable_6 : decode cX11_isUsable 6 = .ok (.getfield 10, 3) := by decide +kernel
theorem dX11_isUsable_9 : decode cX11_isUsable 9 = .ok (.iload_n 1, 1) := by decide +kernel
theorem dX11_isUsable_10 : decode cX11_isUsable 10 = .ok (.invokevirtual 168, 3) := by decide +kernel
theorem dX11_isUsable_13 : decode cX11_isUsable 13 = .ok (.ireturn, 1) := by decide +kernel
theorem dX11_referenceFrame_0 : decode cX11_referenceFrame 0 = .ok (.aload_n 0, 1) := by decide +kernel
theorem dX11_referenceFrame_1 : decode cX11_referenceFrame 1 = .ok (.getfield 10, 3) := by decide +kernel
theorem dX11_referenceFrame_4 : decode cX11_referenceFrame 4 = .ok (.iconst 0, 1) := by decide +kernel
theorem dX11_referenceFrame_5 : decode cX11_referenceFrame 5 = .ok (.invokevirtual 171, 3) := by decide +kernel
theorem dX11_referenceFrame_8 : decode cX11_referenceFrame 8 = .ok (.ireturn, 1) := by decide +kernel
theorem dX11_isOriented_0 : decode cX11_isOriented 0 = .ok (.aload_n 0, 1) := by decide +kernel
theorem dX11_isOriented_1 : decode cX11_isOriented 1 = .ok (.iload_n 1, 1) := by decide +kernel
theorem dX11_isOriented_2 : decode cX11_isOriented 2 = .ok (.invokevirtual 137, 3) := by decide +kernel
theorem dX11_isOriented_5 : decode cX11_isOriented 5 = .ok (.aload_n 0, 1) := by decide +kernel
theorem dX11_isOriented_6 : decode cX11_isOriented 6 = .ok (.invokevirtual 174, 3) := by decide +kernel
theorem dX11_isOriented_9 : decode cX11_isOriented 9 = .ok (.iload_n 1, 1) := by decide +kernel
theorem dX11_isOriented_10 : decode cX11_isOriented 10 = .ok (.invokevirtual 178, 3) := by decide +kernel
theorem dX11_isOriented_13 : decode cX11_isOriented 13 = .ok (.ireturn, 1) := by decide +kernel
theorem dX11_shiftX_0 : decode cX11_shiftX 0 = .ok (.aload_n 0, 1) := by decide +kernel
theorem dX11_shiftX_1 : decode cX11_shiftX 1 = .ok (.iload_n 1, 1) := by decide +kernel
theorem dX11_shiftX_2 : decode cX11_shiftX 2 = .ok (.invokevirtual 181, 3) := by decide +kernel
theorem dX11_shiftX_5 : decode cX11_shiftX 5 = .ok (.aload_n 0, 1) := by decide +kernel
theorem dX11_shiftX_6 : decode cX11_shiftX 6 = .ok (.getfield 33, 3) := by decide +kernel
theorem dX11_shiftX_9 : decode cX11_shiftX 9 = .ok (.iload_n 1, 1) := by decide +kernel
theorem dX11_shiftX_10 : decode cX11_shiftX 10 = .ok (.invokevirtual 184, 3) := by decide +kernel
theorem dX11_shiftX_13 : decode cX11_shiftX 13 = .ok (.ireturn, 1) := by decide +kernel
theorem dX11_shiftY_0 : decode cX11_shiftY 0 = .ok (.aload_n 0, 1) := by decide +kernel
theorem dX11_shiftY_1 : decode cX11_shiftY 1 = .ok (.iload_n 1, 1) := by decide +kernel
theorem dX11_shiftY_2 : decode cX11_shiftY 2 = .ok (.invokevirtual 181, 3) := by decide +kernel
theorem dX11_shiftY_5 : decode cX11_shiftY 5 = .ok (.aload_n 0, 1) := by decide +kernel
theorem dX11_shiftY_6 : decode cX11_shiftY 6 = .ok (.getfield 33, 3) := by decide +kernel
theorem dX11_shiftY_9 : decode cX11_shiftY 9 = .ok (.iload_n 1, 1) := by decide +kernel
theorem dX11_shiftY_10 : decode cX11_shiftY 10 = .ok (.invokevirtual 187, 3) := by decide +kernel
theorem dX11_shiftY_13 : decode cX11_shiftY 13 = .ok (.ireturn, 1) := by decide +kernel
theorem dX11_shiftError_0 : decode cX11_shiftError 0 = .ok (.aload_n 0, 1) := by decide +kernel
theorem dX11_shiftError_1 : decode cX11_shiftError 1 = .ok (.iload_n 1, 1) := by decide +kernel
theorem dX11_shiftError_2 : decode cX11_shiftError 2 = .ok (.invokevirtual 137, 3) := by decide +kernel
theorem dX11_shiftError_5 : decode cX11_shiftError 5 = .ok (.aload_n 0, 1) := by decide +kernel
theorem dX11_shiftError_6 : decode cX11_shiftError 6 = .ok (.invokevirtual 174, 3) := by decide +kernel
theorem dX11_shiftError_9 : decode cX11_shiftError 9 = .ok (.iload_n 1, 1) := by decide +kernel
theorem dX11_shiftError_10 : decode cX11_shiftError 10 = .ok (.invokevirtual 190, 3) := by decide +kernel
theorem dX11_shiftError_13 : decode cX11_shiftError 13 = .ok (.ireturn, 1) := by decide +kernel
theorem dX11_match_0 : decode cX11_match 0 = .ok (.aload_n 0, 1) := by decide +kernel
theorem dX11_match_1 : decode cX11_match 1 = .ok (.iload_n 1, 1) := by decide +kernel
theorem dX11_match_2 : decode cX11_match 2 = .ok (.iload_n 2, 1) := by decide +kernel
theorem dX11_match_3 : decode cX11_match 3 = .ok (.iload_n 3, 1) := by decide +kernel
theorem dX11_match_4 : decode cX11_match 4 = .ok (.iload 4, 2) := by decide +kernel
theorem dX11_match_6 : decode cX11_match 6 = .ok (.invokevirtual 193, 3) := by decide +kernel
theorem dX11_match_9 : decode cX11_match 9 = .ok (.astore 5, 2) := by decide +kernel
theorem dX11_match_11 : decode cX11_match 11 = .ok (.aload 5, 2) := by decide +kernel
theorem dX11_match_13 : decode cX11_match 13 = .ok (.invokevirtual 197, 3) := by decide +kernel
theorem dX11_match_16 : decode cX11_match 16 = .ok (.ifCond .eq 20, 3) := by decide +kernel
theorem dX11_match_19 : decode cX11_match 19 = .ok (.bipush 16, 2) := by decide +kernel
theorem dX11_match_21 : decode cX11_match 21 = .ok (.aload 5, 2) := by decide +kernel
theorem dX11_match_23 : decode cX11_match 23 = .ok (.getfield 201, 3) := by decide +kernel
theorem dX11_match_26 : decode cX11_match 26 = .ok (.imul, 1) := by decide +kernel
theorem dX11_match_27 : decode cX11_match 27 = .ok (.aload 5, 2) := by decide +kernel
theorem dX11_match_29 : decode cX11_match 29 = .ok (.getfield 204, 3) := by decide +kernel
theorem dX11_match_32 : decode cX11_match 32 = .ok (.iadd, 1) := by decide +kernel
theorem dX11_match_33 : decode cX11_match 33 = .ok (.goto 4, 3) := by decide +kernel
theorem dX11_match_36 : decode cX11_match 36 = .ok (.iconst (-1), 1) := by decide +kernel
theorem dX11_match_37 : decode cX11_match 37 = .ok (.ireturn, 1) := by decide +kernel
theorem dX11_matchError_0 : decode cX11_matchError 0 = .ok (.aload_n 0, 1) := by decide +kernel
theorem dX11_matchError_1 : decode cX11_matchError 1 = .ok (.iload_n 1, 1) := by decide +kernel
theorem dX11_matchError_2 : decode cX11_matchError 2 = .ok (.iload_n 2, 1) := by decide +kernel
theorem dX11_matchError_3 : decode cX11_matchError 3 = .ok (.iload_n 3, 1) := by decide +kernel
theorem dX11_matchError_4 : decode cX11_matchError 4 = .ok (.iload 4, 2) := by decide +kernel
theorem dX11_matchError_6 : decode cX11_matchError 6 = .ok (.invokevirtual 193, 3) := by decide +kernel
theorem dX11_matchError_9 : decode cX11_matchError 9 = .ok (.astore 5, 2) := by decide +kernel
theorem dX11_matchError_11 : decode cX11_matchError 11 = .ok (.aload 5, 2) := by decide +kernel
theorem dX11_matchError_13 : decode cX11_matchError 13 = .ok (.invokevirtual 197, 3) := by decide +kernel
theorem dX11_matchError_16 : decode cX11_matchError 16 = .ok (.ifCond .eq 11, 3) := by decide +kernel
theorem dX11_matchError_19 : decode cX11_matchError 19 = .ok (.aload 5, 2) := by decide +kernel
theorem dX11_matchError_21 : decode cX11_matchError 21 = .ok (.getfield 207, 3) := by decide +kernel
theorem dX11_matchError_24 : decode cX11_matchError 24 = .ok (.goto 4, 3) := by decide +kernel
theorem dX11_matchError_27 : decode cX11_matchError 27 = .ok (.iconst (-1), 1) := by decide +kernel
theorem dX11_matchError_28 : decode cX11_matchError 28 = .ok (.ireturn, 1) := by decide +kernel
theorem dX11_matchMargin_0 : decode cX11_matchMargin 0 = .ok (.aload_n 0, 1) := by decide +kernel
theorem dX11_matchMargin_1 : decode cX11_matchMargin 1 = .ok (.iload_n 1, 1) := by decide +kernel
theorem dX11_matchMargin_2 : decode cX11_matchMargin 2 = .ok (.iload_n 2, 1) := by decide +kernel
theorem dX11_matchMargin_3 : decode cX11_matchMargin 3 = .ok (.iload_n 3, 1) := by decide +kernel
theorem dX11_matchMargin_4 : decode cX11_matchMargin 4 = .ok (.iload 4, 2) := by decide +kernel
theorem dX11_matchMargin_6 : decode cX11_matchMargin 6 = .ok (.invokevirtual 193, 3) := by decide +kernel
theorem dX11_matchMargin_9 : decode cX11_matchMargin 9 = .ok (.astore 5, 2) := by decide +kernel
theorem dX11_matchMargin_11 : decode cX11_matchMargin 11 = .ok (.aload 5, 2) := by decide +kernel
theorem dX11_matchMargin_13 : decode cX11_matchMargin 13 = .ok (.getfield 210, 3) := by decide +kernel
theorem dX11_matchMargin_16 : decode cX11_matchMargin 16 = .ok (.iconst 1, 1) := by decide +kernel
theorem dX11_matchMargin_17 : decode cX11_matchMargin 17 = .ok (.if_icmp .le 17, 3) := by decide +kernel
theorem dX11_matchMargin_20 : decode cX11_matchMargin 20 = .ok (.aload 5, 2) := by decide +kernel
theorem dX11_matchMargin_22 : decode cX11_matchMargin 22 = .ok (.getfield 213, 3) := by decide +kernel
theorem dX11_matchMargin_25 : decode cX11_matchMargin 25 = .ok (.aload 5, 2) := by decide +kernel
theorem dX11_matchMargin_27 : decode cX11_matchMargin 27 = .ok (.getfield 207, 3) := by decide +kernel
theorem dX11_matchMargin_30 : decode cX11_matchMargin 30 = .ok (.isub, 1) := by decide +kernel
theorem dX11_matchMargin_31 : decode cX11_matchMargin 31 = .ok (.goto 4, 3) := by decide +kernel
theorem dX11_matchMargin_34 : decode cX11_matchMargin 34 = .ok (.iconst (-1), 1) := by decide +kernel
theorem dX11_matchMargin_35 : decode cX11_matchMargin 35 = .ok (.ireturn, 1) := by decide +kernel
theorem dX11_trackX_0 : decode cX11_trackX 0 = .ok (.aload_n 0, 1) := by decide +kernel
theorem dX11_trackX_1 : decode cX11_trackX 1 = .ok (.iload_n 1, 1) := by decide +kernel
theorem dX11_trackX_2 : decode cX11_trackX 2 = .ok (.invokevirtual 216, 3) := by decide +kernel
theorem dX11_trackX_5 : decode cX11_trackX 5 = .ok (.aload_n 0, 1) := by decide +kernel
theorem dX11_trackX_6 : decode cX11_trackX 6 = .ok (.iload_n 2, 1) := by decide +kernel
theorem dX11_trackX_7 : decode cX11_trackX 7 = .ok (.invokevirtual 137, 3) := by decide +kernel
theorem dX11_trackX_10 : decode cX11_trackX 10 = .ok (.aload_n 0, 1) := by decide +kernel
theorem dX11_trackX_11 : decode cX11_trackX 11 = .ok (.iload_n 1, 1) := by decide +kernel
theorem dX11_trackX_12 : decode cX11_trackX 12 = .ok (.invokevirtual 219, 3) := by decide +kernel
theorem dX11_trackX_15 : decode cX11_trackX 15 = .ok (.iload_n 2, 1) := by decide +kernel
theorem dX11_trackX_16 : decode cX11_trackX 16 = .ok (.invokevirtual 223, 3) := by decide +kernel
theorem dX11_trackX_19 : decode cX11_trackX 19 = .ok (.ireturn, 1) := by decide +kernel
theorem dX11_trackY_0 : decode cX11_trackY 0 = .ok (.aload_n 0, 1) := by decide +kernel
theorem dX11_trackY_1 : decode cX11_trackY 1 = .ok (.iload_n 1, 1) := by decide +kernel
theorem dX11_trackY_2 : decode cX11_trackY 2 = .ok (.invokevirtual 216, 3) := by decide +kernel
theorem dX11_trackY_5 : decode cX11_trackY 5 = .ok (.aload_n 0, 1) := by decide +kernel
theorem dX11_trackY_6 : decode cX11_trackY 6 = .ok (.iload_n 2, 1) := by decide +kernel
theorem dX11_trackY_7 : decode cX11_trackY 7 = .ok (.invokevirtual 137, 3) := by decide +kernel
theorem dX11_trackY_10 : decode cX11_trackY 10 = .ok (.aload_n 0, 1) := by decide +kernel
theorem dX11_trackY_11 : decode cX11_trackY 11 = .ok (.iload_n 1, 1) := by decide +kernel
theorem dX11_trackY_12 : decode cX11_trackY 12 = .ok (.invokevirtual 219, 3) := by decide +kernel
theorem dX11_trackY_15 : decode cX11_trackY 15 = .ok (.iload_n 2, 1) := by decide +kernel
theorem dX11_trackY_16 : decode cX11_trackY 16 = .ok (.invokevirtual 226, 3) := by decide +kernel
theorem dX11_trackY_19 : decode cX11_trackY 19 = .ok (.ireturn, 1) := by decide +kernel
theorem dX11_lostCount_0 : decode cX11_lostCount 0 = .ok (.aload_n 0, 1) := by decide +kernel
theorem dX11_lostCount_1 : decode cX11_lostCount 1 = .ok (.iload_n 1, 1) := by decide +kernel
theorem dX11_lostCount_2 : decode cX11_lostCount 2 = .ok (.invokevirtual 216, 3) := by decide +kernel
theorem dX11_lostCount_5 : decode cX11_lostCount 5 = .ok (.aload_n 0, 1) := by decide +kernel
theorem dX11_lostCount_6 : decode cX11_lostCount 6 = .ok (.iload_n 1, 1) := by decide +kernel
theorem dX11_lostCount_7 : decode cX11_lostCount 7 = .ok (.invokevirtual 219, 3) := by decide +kernel
theorem dX11_lostCount_10 : decode cX11_lostCount 10 = .ok (.getfield 229, 3) := by decide +kernel
theorem dX11_lostCount_13 : decode cX11_lostCount 13 = .ok (.ireturn, 1) := by decide +kernel
theorem dX11_loopError_0 : decode cX11_loopError 0 = .ok (.aload_n 0, 1) := by decide +kernel
theorem dX11_loopError_1 : decode cX11_loopError 1 = .ok (.iload_n 1, 1) := by decide +kernel
theorem dX11_loopError_2 : decode cX11_loopError 2 = .ok (.invokevirtual 216, 3) := by decide +kernel
theorem dX11_loopError_5 : decode cX11_loopError 5 = .ok (.aload_n 0, 1) := by decide +kernel
theorem dX11_loopError_6 : decode cX11_loopError 6 = .ok (.iload_n 2, 1) := by decide +kernel
theorem dX11_loopError_7 : decode cX11_loopError 7 = .ok (.invokevirtual 137, 3) := by decide +kernel
theorem dX11_loopError_10 : decode cX11_loopError 10 = .ok (.aload_n 0, 1) := by decide +kernel
theorem dX11_loopError_11 : decode cX11_loopError 11 = .ok (.iload_n 3, 1) := by decide +kernel
theorem dX11_loopError_12 : decode cX11_loopError 12 = .ok (.invokevirtual 137, 3) := by decide +kernel
theorem dX11_loopError_15 : decode cX11_loopError 15 = .ok (.aload_n 0, 1) := by decide +kernel
theorem dX11_loopError_16 : decode cX11_loopError 16 = .ok (.iload_n 1, 1) := by decide +kernel
theorem dX11_loopError_17 : decode cX11_loopError 17 = .ok (.iload_n 2, 1) := by decide +kernel
theorem dX11_loopError_18 : decode cX11_loopError 18 = .ok (.iload_n 3, 1) := by decide +kernel
theorem dX11_loopError_19 : decode cX11_loopError 19 = .ok (.invokevirtual 232, 3) := by decide +kernel
theorem dX11_loopError_22 : decode cX11_loopError 22 = .ok (.ireturn, 1) := by decide +kernel
theorem dX11_closedLoops_0 : decode cX11_closedLoops 0 = .ok (.aload_n 0, 1) := by decide +kernel
theorem dX11_closedLoops_1 : decode cX11_closedLoops 1 = .ok (.iload_n 1, 1) := by decide +kernel
theorem dX11_closedLoops_2 : decode cX11_closedLoops 2 = .ok (.invokevirtual 216, 3) := by decide +kernel
theorem dX11_closedLoops_5 : decode cX11_closedLoops 5 = .ok (.aload_n 0, 1) := by decide +kernel
theorem dX11_closedLoops_6 : decode cX11_closedLoops 6 = .ok (.invokevirtual 174, 3) := by decide +kernel
theorem dX11_closedLoops_9 : decode cX11_closedLoops 9 = .ok (.getfield 235, 3) := by decide +kernel
theorem dX11_closedLoops_12 : decode cX11_closedLoops 12 = .ok (.istore_n 2, 1) := by decide +kernel
theorem dX11_closedLoops_13 : decode cX11_closedLoops 13 = .ok (.iload_n 2, 1) := by decide +kernel
theorem dX11_closedLoops_14 : decode cX11_closedLoops 14 = .ok (.iconst (-1), 1) := by decide +kernel
theorem dX11_closedLoops_15 : decode cX11_closedLoops 15 = .ok (.if_icmp .ne 5, 3) := by decide +kernel
theorem dX11_closedLoops_18 : decode cX11_closedLoops 18 = .ok (.iconst 0, 1) := by decide +kernel
theorem dX11_closedLoops_19 : decode cX11_closedLoops 19 = .ok (.ireturn, 1) := by decide +kernel
theorem dX11_closedLoops_20 : decode cX11_closedLoops 20 = .ok (.iconst 0, 1) := by decide +kernel
theorem dX11_closedLoops_21 : decode cX11_closedLoops 21 = .ok (.istore_n 3, 1) := by decide +kernel
theorem dX11_closedLoops_22 : decode cX11_closedLoops 22 = .ok (.iload_n 2, 1) := by decide +kernel
theorem dX11_closedLoops_23 : decode cX11_closedLoops 23 = .ok (.iconst 1, 1) := by decide +kernel
theorem dX11_closedLoops_24 : decode cX11_closedLoops 24 = .ok (.iadd, 1) := by decide +kernel
theorem dX11_closedLoops_25 : decode cX11_closedLoops 25 = .ok (.istore 4, 2) := by decide +kernel
theorem dX11_closedLoops_27 : decode cX11_closedLoops 27 = .ok (.iload 4, 2) := by decide +kernel
theorem dX11_closedLoops_29 : decode cX11_closedLoops 29 = .ok (.aload_n 0, 1) := by decide +kernel
theorem dX11_closedLoops_30 : decode cX11_closedLoops 30 = .ok (.getfield 10, 3) := by decide +kernel
theorem dX11_closedLoops_33 : decode cX11_closedLoops 33 = .ok (.getfield 95, 3) := by decide +kernel
theorem dX11_closedLoops_36 : decode cX11_closedLoops 36 = .ok (.if_icmp .ge 48, 3) := by decide +kernel
theorem dX11_closedLoops_39 : decode cX11_closedLoops 39 = .ok (.iload 4, 2) := by decide +kernel
theorem dX11_closedLoops_41 : decode cX11_closedLoops 41 = .ok (.iconst 1, 1) := by decide +kernel
theorem dX11_closedLoops_42 : decode cX11_closedLoops 42 = .ok (.iadd, 1) := by decide +kernel
theorem dX11_closedLoops_43 : decode cX11_closedLoops 43 = .ok (.istore 5, 2) := by decide +kernel
theorem dX11_closedLoops_45 : decode cX11_closedLoops 45 = .ok (.iload 5, 2) := by decide +kernel
theorem dX11_closedLoops_47 : decode cX11_closedLoops 47 = .ok (.aload_n 0, 1) := by decide +kernel
theorem dX11_closedLoops_48 : decode cX11_closedLoops 48 = .ok (.getfield 10, 3) := by decide +kernel
theorem dX11_closedLoops_51 : decode cX11_closedLoops 51 = .ok (.getfield 95, 3) := by decide +kernel
theorem dX11_closedLoops_54 : decode cX11_closedLoops 54 = .ok (.if_icmp .ge 24, 3) := by decide +kernel
theorem dX11_closedLoops_57 : decode cX11_closedLoops 57 = .ok (.aload_n 0, 1) := by decide +kernel
theorem dX11_closedLoops_58 : decode cX11_closedLoops 58 = .ok (.iload_n 1, 1) := by decide +kernel
theorem dX11_closedLoops_59 : decode cX11_closedLoops 59 = .ok (.iload 4, 2) := by decide +kernel
theorem dX11_closedLoops_61 : decode cX11_closedLoops 61 = .ok (.iload 5, 2) := by decide +kernel
theorem dX11_closedLoops_63 : decode cX11_closedLoops 63 = .ok (.invokevirtual 232, 3) := by decide +kernel
theorem dX11_closedLoops_66 : decode cX11_closedLoops 66 = .ok (.ifCond .ne 6, 3) := by decide +kernel
theorem dX11_closedLoops_69 : decode cX11_closedLoops 69 = .ok (.iinc 3 1, 3) := by decide +kernel
theorem dX11_closedLoops_72 : decode cX11_closedLoops 72 = .ok (.iinc 5 1, 3) := by decide +kernel
theorem dX11_closedLoops_75 : decode cX11_closedLoops 75 = .ok (.goto (-30), 3) := by decide +kernel
theorem dX11_closedLoops_78 : decode cX11_closedLoops 78 = .ok (.iinc 4 1, 3) := by decide +kernel
theorem dX11_closedLoops_81 : decode cX11_closedLoops 81 = .ok (.goto (-54), 3) := by decide +kernel
theorem dX11_closedLoops_84 : decode cX11_closedLoops 84 = .ok (.iload_n 3, 1) := by decide +kernel
theorem dX11_closedLoops_85 : decode cX11_closedLoops 85 = .ok (.ireturn, 1) := by decide +kernel
theorem dX11_leastTolerance_0 : decode cX11_leastTolerance 0 = .ok (.aload_n 0, 1) := by decide +kernel
theorem dX11_leastTolerance_1 : decode cX11_leastTolerance 1 = .ok (.iload_n 1, 1) := by decide +kernel
theorem dX11_leastTolerance_2 : decode cX11_leastTolerance 2 = .ok (.invokevirtual 216, 3) := by decide +kernel
theorem dX11_leastTolerance_5 : decode cX11_leastTolerance 5 = .ok (.aload_n 0, 1) := by decide +kernel
theorem dX11_leastTolerance_6 : decode cX11_leastTolerance 6 = .ok (.getfield 51, 3) := by decide +kernel
theorem dX11_leastTolerance_9 : decode cX11_leastTolerance 9 = .ok (.aload_n 0, 1) := by decide +kernel
theorem dX11_leastTolerance_10 : decode cX11_leastTolerance 10 = .ok (.getfield 10, 3) := by decide +kernel
theorem dX11_leastTolerance_13 : decode cX11_leastTolerance 13 = .ok (.aload_n 0, 1) := by decide +kernel
theorem dX11_leastTolerance_14 : decode cX11_leastTolerance 14 = .ok (.invokevirtual 174, 3) := by decide +kernel
theorem dX11_leastTolerance_17 : decode cX11_leastTolerance 17 = .ok (.aload_n 0, 1) := by decide +kernel
theorem dX11_leastTolerance_18 : decode cX11_leastTolerance 18 = .ok (.getfield 40, 3) := by decide +kernel
theorem dX11_leastTolerance_21 : decode cX11_leastTolerance 21 = .ok (.iload_n 1, 1) := by decide +kernel
theorem dX11_leastTolerance_22 : decode cX11_leastTolerance 22 = .ok (.getstatic 124, 3) := by decide +kernel
theorem dX11_leastTolerance_25 : decode cX11_leastTolerance 25 = .ok (.iconst 4, 1) := by decide +kernel
theorem dX11_leastTolerance_26 : decode cX11_leastTolerance 26 = .ok (.iaload, 1) := by decide +kernel
theorem dX11_leastTolerance_27 : decode cX11_leastTolerance 27 = .ok (.invokevirtual 238, 3) := by decide +kernel
theorem dX11_leastTolerance_30 : decode cX11_leastTolerance 30 = .ok (.aload_n 0, 1) := by decide +kernel
theorem dX11_leastTolerance_31 : decode cX11_leastTolerance 31 = .ok (.getfield 51, 3) := by decide +kernel
theorem dX11_leastTolerance_34 : decode cX11_leastTolerance 34 = .ok (.getfield 242, 3) := by decide +kernel
theorem dX11_leastTolerance_37 : decode cX11_leastTolerance 37 = .ok (.ifCond .eq 13, 3) := by decide +kernel
theorem dX11_leastTolerance_40 : decode cX11_leastTolerance 40 = .ok (.aload_n 0, 1) := by decide +kernel
theorem dX11_leastTolerance_41 : decode cX11_leastTolerance 41 = .ok (.getfield 51, 3) := by decide +kernel
theorem dX11_leastTolerance_44 : decode cX11_leastTolerance 44 = .ok (.getfield 229, 3) := by decide +kernel
theorem dX11_leastTolerance_47 : decode cX11_leastTolerance 47 = .ok (.ifCond .le 5, 3) := by decide +kernel
theorem dX11_leastTolerance_50 : decode cX11_leastTolerance 50 = .ok (.iconst (-1), 1) := by decide +kernel
theorem dX11_leastTolerance_51 : decode cX11_leastTolerance 51 = .ok (.ireturn, 1) := by decide +kernel
theorem dX11_leastTolerance_52 : decode cX11_leastTolerance 52 = .ok (.aload_n 0, 1) := by decide +kernel
theorem dX11_leastTolerance_53 : decode cX11_leastTolerance 53 = .ok (.getfield 10, 3) := by decide +kernel
theorem dX11_leastTolerance_56 : decode cX11_leastTolerance 56 = .ok (.invokevirtual 243, 3) := by decide +kernel
theorem dX11_leastTolerance_59 : decode cX11_leastTolerance 59 = .ok (.istore_n 2, 1) := by decide +kernel
theorem dX11_leastTolerance_60 : decode cX11_leastTolerance 60 = .ok (.aload_n 0, 1) := by decide +kernel
theorem dX11_leastTolerance_61 : decode cX11_leastTolerance 61 = .ok (.getfield 51, 3) := by decide +kernel
theorem dX11_leastTolerance_64 : decode cX11_leastTolerance 64 = .ok (.getfield 247, 3) := by decide +kernel
theorem dX11_leastTolerance_67 : decode cX11_leastTolerance 67 = .ok (.iload_n 2, 1) := by decide +kernel
theorem dX11_leastTolerance_68 : decode cX11_leastTolerance 68 = .ok (.iadd, 1) := by decide +kernel
theorem dX11_leastTolerance_69 : decode cX11_leastTolerance 69 = .ok (.iconst 1, 1) := by decide +kernel
theorem dX11_leastTolerance_70 : decode cX11_leastTolerance 70 = .ok (.isub, 1) := by decide +kernel
theorem dX11_leastTolerance_71 : decode cX11_leastTolerance 71 = .ok (.iload_n 2, 1) := by decide +kernel
theorem dX11_leastTolerance_72 : decode cX11_leastTolerance 72 = .ok (.invokestatic 250, 3) := by decide +kernel
theorem dX11_leastTolerance_75 : decode cX11_leastTolerance 75 = .ok (.ireturn, 1) := by decide +kernel
theorem dX11_segmentCount_0 : decode cX11_segmentCount 0 = .ok (.aload_n 0, 1) := by decide +kernel
theorem dX11_segmentCount_1 : decode cX11_segmentCount 1 = .ok (.iload_n 1, 1) := by decide +kernel
theorem dX11_segmentCount_2 : decode cX11_segmentCount 2 = .ok (.invokevirtual 216, 3) := by decide +kernel
theorem dX11_segmentCount_5 : decode cX11_segmentCount 5 = .ok (.aload_n 0, 1) := by decide +kernel
theorem dX11_segmentCount_6 : decode cX11_segmentCount 6 = .ok (.iload_n 1, 1) := by decide +kernel
theorem dX11_segmentCount_7 : decode cX11_segmentCount 7 = .ok (.invokevirtual 219, 3) := by decide +kernel
theorem dX11_segmentCount_10 : decode cX11_segmentCount 10 = .ok (.invokevirtual 254, 3) := by decide +kernel
theorem dX11_segmentCount_13 : decode cX11_segmentCount 13 = .ok (.ireturn, 1) := by decide +kernel
theorem dX11_speed_0 : decode cX11_speed 0 = .ok (.aload_n 0, 1) := by decide +kernel
theorem dX11_speed_1 : decode cX11_speed 1 = .ok (.iload_n 1, 1) := by decide +kernel
theorem dX11_speed_2 : decode cX11_speed 2 = .ok (.invokevirtual 216, 3) := by decide +kernel
theorem dX11_speed_5 : decode cX11_speed 5 = .ok (.aload_n 0, 1) := by decide +kernel
theorem dX11_speed_6 : decode cX11_speed 6 = .ok (.iload_n 1, 1) := by decide +kernel
theorem dX11_speed_7 : decode cX11_speed 7 = .ok (.invokevirtual 219, 3) := by decide +kernel
theorem dX11_speed_10 : decode cX11_speed 10 = .ok (.astore_n 3, 1) := by decide +kernel
theorem dX11_speed_11 : decode cX11_speed 11 = .ok (.aload_n 3, 1) := by decide +kernel
theorem dX11_speed_12 : decode cX11_speed 12 = .ok (.iload_n 2, 1) := by decide +kernel
theorem dX11_speed_13 : decode cX11_speed 13 = .ok (.invokestatic 257, 3) := by decide +kernel
theorem dX11_speed_16 : decode cX11_speed 16 = .ok (.aload_n 3, 1) := by decide +kernel
theorem dX11_speed_17 : decode cX11_speed 17 = .ok (.iload_n 2, 1) := by decide +kernel
theorem dX11_speed_18 : decode cX11_speed 18 = .ok (.aload_n 0, 1) := by decide +kernel
theorem dX11_speed_19 : decode cX11_speed 19 = .ok (.getfield 10, 3) := by decide +kernel
theorem dX11_speed_22 : decode cX11_speed 22 = .ok (.getfield 117, 3) := by decide +kernel
theorem dX11_speed_25 : decode cX11_speed 25 = .ok (.iconst 5, 1) := by decide +kernel
theorem dX11_speed_26 : decode cX11_speed 26 = .ok (.iaload, 1) := by decide +kernel
theorem dX11_speed_27 : decode cX11_speed 27 = .ok (.invokevirtual 261, 3) := by decide +kernel
theorem dX11_speed_30 : decode cX11_speed 30 = .ok (.ireturn, 1) := by decide +kernel
theorem dX11_meanSpeed_0 : decode cX11_meanSpeed 0 = .ok (.aload_n 0, 1) := by decide +kernel
theorem dX11_meanSpeed_1 : decode cX11_meanSpeed 1 = .ok (.iload_n 1, 1) := by decide +kernel
theorem dX11_meanSpeed_2 : decode cX11_meanSpeed 2 = .ok (.invokevirtual 216, 3) := by decide +kernel
theorem dX11_meanSpeed_5 : decode cX11_meanSpeed 5 = .ok (.aload_n 0, 1) := by decide +kernel
theorem dX11_meanSpeed_6 : decode cX11_meanSpeed 6 = .ok (.iload_n 1, 1) := by decide +kernel
theorem dX11_meanSpeed_7 : decode cX11_meanSpeed 7 = .ok (.invokevirtual 219, 3) := by decide +kernel
theorem dX11_meanSpeed_10 : decode cX11_meanSpeed 10 = .ok (.aload_n 0, 1) := by decide +kernel
theorem dX11_meanSpeed_11 : decode cX11_meanSpeed 11 = .ok (.getfield 10, 3) := by decide +kernel
theorem dX11_meanSpeed_14 : decode cX11_meanSpeed 14 = .ok (.getfield 117, 3) := by decide +kernel
theorem dX11_meanSpeed_17 : decode cX11_meanSpeed 17 = .ok (.iconst 5, 1) := by decide +kernel
theorem dX11_meanSpeed_18 : decode cX11_meanSpeed 18 = .ok (.iaload, 1) := by decide +kernel
theorem dX11_meanSpeed_19 : decode cX11_meanSpeed 19 = .ok (.invokevirtual 264, 3) := by decide +kernel
theorem dX11_meanSpeed_22 : decode cX11_meanSpeed 22 = .ok (.ireturn, 1) := by decide +kernel
theorem dX11_meanSpeedWithScale_0 : decode cX11_meanSpeedWithScale 0 = .ok (.aload_n 0, 1) := by decide +kernel
theorem dX11_meanSpeedWithScale_1 : decode cX11_meanSpeedWithScale 1 = .ok (.iload_n 1, 1) := by decide +kernel
theorem dX11_meanSpeedWithScale_2 : decode cX11_meanSpeedWithScale 2 = .ok (.invokevirtual 216, 3) := by decide +kernel
theorem dX11_meanSpeedWithScale_5 : decode cX11_meanSpeedWithScale 5 = .ok (.iload_n 2, 1) := by decide +kernel
theorem dX11_meanSpeedWithScale_6 : decode cX11_meanSpeedWithScale 6 = .ok (.getstatic 121, 3) := by decide +kernel
theorem dX11_meanSpeedWithScale_9 : decode cX11_meanSpeedWithScale 9 = .ok (.iconst 5, 1) := by decide +kernel
theorem dX11_meanSpeedWithScale_10 : decode cX11_meanSpeedWithScale 10 = .ok (.iaload, 1) := by decide +kernel
theorem dX11_meanSpeedWithScale_11 : decode cX11_meanSpeedWithScale 11 = .ok (.getstatic 124, 3) := by decide +kernel
theorem dX11_meanSpeedWithScale_14 : decode cX11_meanSpeedWithScale 14 = .ok (.iconst 5, 1) := by decide +kernel
theorem dX11_meanSpeedWithScale_15 : decode cX11_meanSpeedWithScale 15 = .ok (.iaload, 1) := by decide +kernel
theorem dX11_meanSpeedWithScale_16 : decode cX11_meanSpeedWithScale 16 = .ok (.invokestatic 127, 3) := by decide +kernel
theorem dX11_meanSpeedWithScale_19 : decode cX11_meanSpeedWithScale 19 = .ok (.ifCond .ne 6, 3) := by decide +kernel
theorem dX11_meanSpeedWithScale_22 : decode cX11_meanSpeedWithScale 22 = .ok (.bipush (-2), 2) := by decide +kernel
theorem dX11_meanSpeedWithScale_24 : decode cX11_meanSpeedWithScale 24 = .ok (.ireturn, 1) := by decide +kernel
theorem dX11_meanSpeedWithScale_25 : decode cX11_meanSpeedWithScale 25 = .ok (.aload_n 0, 1) := by decide +kernel
theorem dX11_meanSpeedWithScale_26 : decode cX11_meanSpeedWithScale 26 = .ok (.iload_n 1, 1) := by decide +kernel
theorem dX11_meanSpeedWithScale_27 : decode cX11_meanSpeedWithScale 27 = .ok (.invokevirtual 219, 3) := by decide +kernel
theorem dX11_meanSpeedWithScale_30 : decode cX11_meanSpeedWithScale 30 = .ok (.iload_n 2, 1) := by decide +kernel
theorem dX11_meanSpeedWithScale_31 : decode cX11_meanSpeedWithScale 31 = .ok (.invokevirtual 264, 3) := by decide +kernel
theorem dX11_meanSpeedWithScale_34 : decode cX11_meanSpeedWithScale 34 = .ok (.ireturn, 1) := by decide +kernel
theorem dX11_fastestFeature_0 : decode cX11_fastestFeature 0 = .ok (.iconst (-1), 1) := by decide +kernel
theorem dX11_fastestFeature_1 : decode cX11_fastestFeature 1 = .ok (.istore_n 1, 1) := by decide +kernel
theorem dX11_fastestFeature_2 : decode cX11_fastestFeature 2 = .ok (.iconst 0, 1) := by decide +kernel
theorem dX11_fastestFeature_3 : decode cX11_fastestFeature 3 = .ok (.istore_n 2, 1) := by decide +kernel
theorem dX11_fastestFeature_4 : decode cX11_fastestFeature 4 = .ok (.iconst 0, 1) := by decide +kernel
theorem dX11_fastestFeature_5 : decode cX11_fastestFeature 5 = .ok (.istore_n 3, 1) := by decide +kernel
theorem dX11_fastestFeature_6 : decode cX11_fastestFeature 6 = .ok (.iload_n 3, 1) := by decide +kernel
theorem dX11_fastestFeature_7 : decode cX11_fastestFeature 7 = .ok (.aload_n 0, 1) := by decide +kernel
theorem dX11_fastestFeature_8 : decode cX11_fastestFeature 8 = .ok (.getfield 10, 3) := by decide +kernel
theorem dX11_fastestFeature_11 : decode cX11_fastestFeature 11 = .ok (.getfield 107, 3) := by decide +kernel
theorem dX11_fastestFeature_14 : decode cX11_fastestFeature 14 = .ok (.getfield 102, 3) := by decide +kernel
theorem dX11_fastestFeature_17 : decode cX11_fastestFeature 17 = .ok (.if_icmp .ge 56, 3) := by decide +kernel
theorem dX11_fastestFeature_20 : decode cX11_fastestFeature 20 = .ok (.aload_n 0, 1) := by decide +kernel
theorem dX11_fastestFeature_21 : decode cX11_fastestFeature 21 = .ok (.iload_n 3, 1) := by decide +kernel
theorem dX11_fastestFeature_22 : decode cX11_fastestFeature 22 = .ok (.invokevirtual 219, 3) := by decide +kernel
theorem dX11_fastestFeature_25 : decode cX11_fastestFeature 25 = .ok (.astore 4, 2) := by decide +kernel
theorem dX11_fastestFeature_27 : decode cX11_fastestFeature 27 = .ok (.aload 4, 2) := by decide +kernel
theorem dX11_fastestFeature_29 : decode cX11_fastestFeature 29 = .ok (.aload_n 0, 1) := by decide +kernel
theorem dX11_fastestFeature_30 : decode cX11_fastestFeature 30 = .ok (.getfield 10, 3) := by decide +kernel
theorem dX11_fastestFeature_33 : decode cX11_fastestFeature 33 = .ok (.getfield 117, 3) := by decide +kernel
theorem dX11_fastestFeature_36 : decode cX11_fastestFeature 36 = .ok (.iconst 5, 1) := by decide +kernel
theorem dX11_fastestFeature_37 : decode cX11_fastestFeature 37 = .ok (.iaload, 1) := by decide +kernel
theorem dX11_fastestFeature_38 : decode cX11_fastestFeature 38 = .ok (.invokevirtual 264, 3) := by decide +kernel
theorem dX11_fastestFeature_41 : decode cX11_fastestFeature 41 = .ok (.istore 5, 2) := by decide +kernel
theorem dX11_fastestFeature_43 : decode cX11_fastestFeature 43 = .ok (.aload 4, 2) := by decide +kernel
theorem dX11_fastestFeature_45 : decode cX11_fastestFeature 45 = .ok (.invokevirtual 254, 3) := by decide +kernel
theorem dX11_fastestFeature_48 : decode cX11_fastestFeature 48 = .ok (.ifCond .le 19, 3) := by decide +kernel
theorem dX11_fastestFeature_51 : decode cX11_fastestFeature 51 = .ok (.iload_n 1, 1) := by decide +kernel
theorem dX11_fastestFeature_52 : decode cX11_fastestFeature 52 = .ok (.iconst (-1), 1) := by decide +kernel
theorem dX11_fastestFeature_53 : decode cX11_fastestFeature 53 = .ok (.if_icmp .eq 9, 3) := by decide +kernel
theorem dX11_fastestFeature_56 : decode cX11_fastestFeature 56 = .ok (.iload 5, 2) := by decide +kernel
theorem dX11_fastestFeature_58 : decode cX11_fastestFeature 58 = .ok (.iload_n 2, 1) := by decide +kernel
theorem dX11_fastestFeature_59 : decode cX11_fastestFeature 59 = .ok (.if_icmp .le 8, 3) := by decide +kernel
theorem dX11_fastestFeature_62 : decode cX11_fastestFeature 62 = .ok (.iload_n 3, 1) := by decide +kernel
theorem dX11_fastestFeature_63 : decode cX11_fastestFeature 63 = .ok (.istore_n 1, 1) := by decide +kernel
theorem dX11_fastestFeature_64 : decode cX11_fastestFeature 64 = .ok (.iload 5, 2) := by decide +kernel
theorem dX11_fastestFeature_66 : decode cX11_fastestFeature 66 = .ok (.istore_n 2, 1) := by decide +kernel
theorem dX11_fastestFeature_67 : decode cX11_fastestFeature 67 = .ok (.iinc 3 1, 3) := by decide +kernel
theorem dX11_fastestFeature_70 : decode cX11_fastestFeature 70 = .ok (.goto (-64), 3) := by decide +kernel
theorem dX11_fastestFeature_73 : decode cX11_fastestFeature 73 = .ok (.iload_n 1, 1) := by decide +kernel
theorem dX11_fastestFeature_74 : decode cX11_fastestFeature 74 = .ok (.ireturn, 1) := by decide +kernel
theorem dX11_surgeCount_0 : decode cX11_surgeCount 0 = .ok (.aload_n 0, 1) := by decide +kernel
theorem dX11_surgeCount_1 : decode cX11_surgeCount 1 = .ok (.iload_n 1, 1) := by decide +kernel
theorem dX11_surgeCount_2 : decode cX11_surgeCount 2 = .ok (.invokevirtual 216, 3) := by decide +kernel
theorem dX11_surgeCount_5 : decode cX11_surgeCount 5 = .ok (.aload_n 0, 1) := by decide +kernel
theorem dX11_surgeCount_6 : decode cX11_surgeCount 6 = .ok (.iload_n 1, 1) := by decide +kernel
theorem dX11_surgeCount_7 : decode cX11_surgeCount 7 = .ok (.invokevirtual 219, 3) := by decide +kernel
theorem dX11_surgeCount_10 : decode cX11_surgeCount 10 = .ok (.aload_n 0, 1) := by decide +kernel
theorem dX11_surgeCount_11 : decode cX11_surgeCount 11 = .ok (.getfield 10, 3) := by decide +kernel
theorem dX11_surgeCount_14 : decode cX11_surgeCount 14 = .ok (.getfield 117, 3) := by decide +kernel
theorem dX11_surgeCount_17 : decode cX11_surgeCount 17 = .ok (.iconst 5, 1) := by decide +kernel
theorem dX11_surgeCount_18 : decode cX11_surgeCount 18 = .ok (.iaload, 1) := by decide +kernel
theorem dX11_surgeCount_19 : decode cX11_surgeCount 19 = .ok (.aload_n 0, 1) := by decide +kernel
theorem dX11_surgeCount_20 : decode cX11_surgeCount 20 = .ok (.getfield 10, 3) := by decide +kernel
theorem dX11_surgeCount_23 : decode cX11_surgeCount 23 = .ok (.getfield 117, 3) := by decide +kernel
theorem dX11_surgeCount_26 : decode cX11_surgeCount 26 = .ok (.bipush 7, 2) := by decide +kernel
theorem dX11_surgeCount_28 : decode cX11_surgeCount 28 = .ok (.iaload, 1) := by decide +kernel
theorem dX11_surgeCount_29 : decode cX11_surgeCount 29 = .ok (.invokevirtual 267, 3) := by decide +kernel
theorem dX11_surgeCount_32 : decode cX11_surgeCount 32 = .ok (.ireturn, 1) := by decide +kernel
theorem dX11_surgeStart_0 : decode cX11_surgeStart 0 = .ok (.aload_n 0, 1) := by decide +kernel
theorem dX11_surgeStart_1 : decode cX11_surgeStart 1 = .ok (.iload_n 1, 1) := by decide +kernel
theorem dX11_surgeStart_2 : decode cX11_surgeStart 2 = .ok (.invokevirtual 216, 3) := by decide +kernel
theorem dX11_surgeStart_5 : decode cX11_surgeStart 5 = .ok (.aload_n 0, 1) := by decide +kernel
theorem dX11_surgeStart_6 : decode cX11_surgeStart 6 = .ok (.iload_n 1, 1) := by decide +kernel
theorem dX11_surgeStart_7 : decode cX11_surgeStart 7 = .ok (.invokevirtual 219, 3) := by decide +kernel
theorem dX11_surgeStart_10 : decode cX11_surgeStart 10 = .ok (.astore_n 3, 1) := by decide +kernel
theorem dX11_surgeStart_11 : decode cX11_surgeStart 11 = .ok (.aload_n 3, 1) := by decide +kernel
theorem dX11_surgeStart_12 : decode cX11_surgeStart 12 = .ok (.iload_n 2, 1) := by decide +kernel
theorem dX11_surgeStart_13 : decode cX11_surgeStart 13 = .ok (.aload_n 0, 1) := by decide +kernel
theorem dX11_surgeStart_14 : decode cX11_surgeStart 14 = .ok (.getfield 10, 3) := by decide +kernel
theorem dX11_surgeStart_17 : decode cX11_surgeStart 17 = .ok (.getfield 117, 3) := by decide +kernel
theorem dX11_surgeStart_20 : decode cX11_surgeStart 20 = .ok (.iconst 5, 1) := by decide +kernel
theorem dX11_surgeStart_21 : decode cX11_surgeStart 21 = .ok (.iaload, 1) := by decide +kernel
theorem dX11_surgeStart_22 : decode cX11_surgeStart 22 = .ok (.aload_n 0, 1) := by decide +kernel
theorem dX11_surgeStart_23 : decode cX11_surgeStart 23 = .ok (.getfield 10, 3) := by decide +kernel
theorem dX11_surgeStart_26 : decode cX11_surgeStart 26 = .ok (.getfield 117, 3) := by decide +kernel
theorem dX11_surgeStart_29 : decode cX11_surgeStart 29 = .ok (.bipush 7, 2) := by decide +kernel
theorem dX11_surgeStart_31 : decode cX11_surgeStart 31 = .ok (.iaload, 1) := by decide +kernel
theorem dX11_surgeStart_32 : decode cX11_surgeStart 32 = .ok (.invokevirtual 270, 3) := by decide +kernel
theorem dX11_surgeStart_35 : decode cX11_surgeStart 35 = .ok (.istore 4, 2) := by decide +kernel
theorem dX11_surgeStart_37 : decode cX11_surgeStart 37 = .ok (.iload 4, 2) := by decide +kernel
theorem dX11_surgeStart_39 : decode cX11_surgeStart 39 = .ok (.iconst (-1), 1) := by decide +kernel
theorem dX11_surgeStart_40 : decode cX11_surgeStart 40 = .ok (.if_icmp .ne 7, 3) := by decide +kernel
theorem dX11_surgeStart_43 : decode cX11_surgeStart 43 = .ok (.iconst (-1), 1) := by decide +kernel
theorem dX11_surgeStart_44 : decode cX11_surgeStart 44 = .ok (.goto 9, 3) := by decide +kernel
theorem dX11_surgeStart_47 : decode cX11_surgeStart 47 = .ok (.aload_n 3, 1) := by decide +kernel
theorem dX11_surgeStart_48 : decode cX11_surgeStart 48 = .ok (.iload 4, 2) := by decide +kernel
theorem dX11_surgeStart_50 : decode cX11_surgeStart 50 = .ok (.invokevirtual 273, 3) := by decide +kernel
theorem dX11_surgeStart_53 : decode cX11_surgeStart 53 = .ok (.ireturn, 1) := by decide +kernel
theorem dX11_surgeDays_0 : decode cX11_surgeDays 0 = .ok (.aload_n 0, 1) := by decide +kernel
theorem dX11_surgeDays_1 : decode cX11_surgeDays 1 = .ok (.iload_n 1, 1) := by decide +kernel
theorem dX11_surgeDays_2 : decode cX11_surgeDays 2 = .ok (.invokevirtual 216, 3) := by decide +kernel
theorem dX11_surgeDays_5 : decode cX11_surgeDays 5 = .ok (.aload_n 0, 1) := by decide +kernel
theorem dX11_surgeDays_6 : decode cX11_surgeDays 6 = .ok (.iload_n 1, 1) := by decide +kernel
theorem dX11_surgeDays_7 : decode cX11_surgeDays 7 = .ok (.invokevirtual 219, 3) := by decide +kernel
theorem dX11_surgeDays_10 : decode cX11_surgeDays 10 = .ok (.astore_n 3, 1) := by decide +kernel
theorem dX11_surgeDays_11 : decode cX11_surgeDays 11 = .ok (.aload_n 3, 1) := by decide +kernel
theorem dX11_surgeDays_12 : decode cX11_surgeDays 12 = .ok (.iload_n 2, 1) := by decide +kernel
theorem dX11_surgeDays_13 : decode cX11_surgeDays 13 = .ok (.aload_n 0, 1) := by decide +kernel
theorem dX11_surgeDays_14 : decode cX11_surgeDays 14 = .ok (.getfield 10, 3) := by decide +kernel
theorem dX11_surgeDays_17 : decode cX11_surgeDays 17 = .ok (.getfield 117, 3) := by decide +kernel
theorem dX11_surgeDays_20 : decode cX11_surgeDays 20 = .ok (.iconst 5, 1) := by decide +kernel
theorem dX11_surgeDays_21 : decode cX11_surgeDays 21 = .ok (.iaload, 1) := by decide +kernel
theorem dX11_surgeDays_22 : decode cX11_surgeDays 22 = .ok (.aload_n 0, 1) := by decide +kernel
theorem dX11_surgeDays_23 : decode cX11_surgeDays 23 = .ok (.getfield 10, 3) := by decide +kernel
theorem dX11_surgeDays_26 : decode cX11_surgeDays 26 = .ok (.getfield 117, 3) := by decide +kernel
theorem dX11_surgeDays_29 : decode cX11_surgeDays 29 = .ok (.bipush 7, 2) := by decide +kernel
theorem dX11_surgeDays_31 : decode cX11_surgeDays 31 = .ok (.iaload, 1) := by decide +kernel
theorem dX11_surgeDays_32 : decode cX11_surgeDays 32 = .ok (.invokevirtual 270, 3) := by decide +kernel
theorem dX11_surgeDays_35 : decode cX11_surgeDays 35 = .ok (.istore 4, 2) := by decide +kernel
theorem dX11_surgeDays_37 : decode cX11_surgeDays 37 = .ok (.iload 4, 2) := by decide +kernel
theorem dX11_surgeDays_39 : decode cX11_surgeDays 39 = .ok (.iconst (-1), 1) := by decide +kernel
theorem dX11_surgeDays_40 : decode cX11_surgeDays 40 = .ok (.if_icmp .ne 5, 3) := by decide +kernel
theorem dX11_surgeDays_43 : decode cX11_surgeDays 43 = .ok (.iconst (-1), 1) := by decide +kernel
theorem dX11_surgeDays_44 : decode cX11_surgeDays 44 = .ok (.ireturn, 1) := by decide +kernel
theorem dX11_surgeDays_45 : decode cX11_surgeDays 45 = .ok (.aload_n 3, 1) := by decide +kernel
theorem dX11_surgeDays_46 : decode cX11_surgeDays 46 = .ok (.iload 4, 2) := by decide +kernel
theorem dX11_surgeDays_48 : decode cX11_surgeDays 48 = .ok (.aload_n 0, 1) := by decide +kernel
theorem dX11_surgeDays_49 : decode cX11_surgeDays 49 = .ok (.getfield 10, 3) := by decide +kernel
theorem dX11_surgeDays_52 : decode cX11_surgeDays 52 = .ok (.getfield 117, 3) := by decide +kernel
theorem dX11_surgeDays_55 : decode cX11_surgeDays 55 = .ok (.iconst 5, 1) := by decide +kernel
theorem dX11_surgeDays_56 : decode cX11_surgeDays 56 = .ok (.iaload, 1) := by decide +kernel
theorem dX11_surgeDays_57 : decode cX11_surgeDays 57 = .ok (.aload_n 0, 1) := by decide +kernel
theorem dX11_surgeDays_58 : decode cX11_surgeDays 58 = .ok (.getfield 10, 3) := by decide +kernel
theorem dX11_surgeDays_61 : decode cX11_surgeDays 61 = .ok (.getfield 117, 3) := by decide +kernel
theorem dX11_surgeDays_64 : decode cX11_surgeDays 64 = .ok (.bipush 7, 2) := by decide +kernel
theorem dX11_surgeDays_66 : decode cX11_surgeDays 66 = .ok (.iaload, 1) := by decide +kernel
theorem dX11_surgeDays_67 : decode cX11_surgeDays 67 = .ok (.invokevirtual 274, 3) := by decide +kernel
theorem dX11_surgeDays_70 : decode cX11_surgeDays 70 = .ok (.istore 5, 2) := by decide +kernel
theorem dX11_surgeDays_72 : decode cX11_surgeDays 72 = .ok (.aload_n 3, 1) := by decide +kernel
theorem dX11_surgeDays_73 : decode cX11_surgeDays 73 = .ok (.iload 5, 2) := by decide +kernel
theorem dX11_surgeDays_75 : decode cX11_surgeDays 75 = .ok (.invokevirtual 273, 3) := by decide +kernel
theorem dX11_surgeDays_78 : decode cX11_surgeDays 78 = .ok (.aload_n 3, 1) := by decide +kernel
theorem dX11_surgeDays_79 : decode cX11_surgeDays 79 = .ok (.iload 4, 2) := by decide +kernel
theorem dX11_surgeDays_81 : decode cX11_surgeDays 81 = .ok (.invokevirtual 273, 3) := by decide +kernel
theorem dX11_surgeDays_84 : decode cX11_surgeDays 84 = .ok (.isub, 1) := by decide +kernel
theorem dX11_surgeDays_85 : decode cX11_surgeDays 85 = .ok (.ireturn, 1) := by decide +kernel
theorem dX11_positionX_0 : decode cX11_positionX 0 = .ok (.aload_n 0, 1) := by decide +kernel
theorem dX11_positionX_1 : decode cX11_positionX 1 = .ok (.iload_n 1, 1) := by decide +kernel
theorem dX11_positionX_2 : decode cX11_positionX 2 = .ok (.invokevirtual 216, 3) := by decide +kernel
theorem dX11_positionX_5 : decode cX11_positionX 5 = .ok (.aload_n 0, 1) := by decide +kernel
theorem dX11_positionX_6 : decode cX11_positionX 6 = .ok (.iload_n 1, 1) := by decide +kernel
theorem dX11_positionX_7 : decode cX11_positionX 7 = .ok (.invokevirtual 219, 3) := by decide +kernel
theorem dX11_positionX_10 : decode cX11_positionX 10 = .ok (.astore_n 3, 1) := by decide +kernel
theorem dX11_positionX_11 : decode cX11_positionX 11 = .ok (.aload_n 3, 1) := by decide +kernel
theorem dX11_positionX_12 : decode cX11_positionX 12 = .ok (.aload_n 3, 1) := by decide +kernel
theorem dX11_positionX_13 : decode cX11_positionX 13 = .ok (.getfield 277, 3) := by decide +kernel
theorem dX11_positionX_16 : decode cX11_positionX 16 = .ok (.iload_n 2, 1) := by decide +kernel
theorem dX11_positionX_17 : decode cX11_positionX 17 = .ok (.invokevirtual 280, 3) := by decide +kernel
theorem dX11_positionX_20 : decode cX11_positionX 20 = .ok (.ireturn, 1) := by decide +kernel
theorem dX11_positionY_0 : decode cX11_positionY 0 = .ok (.aload_n 0, 1) := by decide +kernel
theorem dX11_positionY_1 : decode cX11_positionY 1 = .ok (.iload_n 1, 1) := by decide +kernel
theorem dX11_positionY_2 : decode cX11_positionY 2 = .ok (.invokevirtual 216, 3) := by decide +kernel
theorem dX11_positionY_5 : decode cX11_positionY 5 = .ok (.aload_n 0, 1) := by decide +kernel
theorem dX11_positionY_6 : decode cX11_positionY 6 = .ok (.iload_n 1, 1) := by decide +kernel
theorem dX11_positionY_7 : decode cX11_positionY 7 = .ok (.invokevirtual 219, 3) := by decide +kernel
theorem dX11_positionY_10 : decode cX11_positionY 10 = .ok (.astore_n 3, 1) := by decide +kernel
theorem dX11_positionY_11 : decode cX11_positionY 11 = .ok (.aload_n 3, 1) := by decide +kernel
theorem dX11_positionY_12 : decode cX11_positionY 12 = .ok (.aload_n 3, 1) := by decide +kernel
theorem dX11_positionY_13 : decode cX11_positionY 13 = .ok (.getfield 284, 3) := by decide +kernel
theorem dX11_positionY_16 : decode cX11_positionY 16 = .ok (.iload_n 2, 1) := by decide +kernel
theorem dX11_positionY_17 : decode cX11_positionY 17 = .ok (.invokevirtual 280, 3) := by decide +kernel
theorem dX11_positionY_20 : decode cX11_positionY 20 = .ok (.ireturn, 1) := by decide +kernel
theorem dX11_moveFeature_0 : decode cX11_moveFeature 0 = .ok (.aload_n 0, 1) := by decide +kernel
theorem dX11_moveFeature_1 : decode cX11_moveFeature 1 = .ok (.getfield 10, 3) := by decide +kernel
theorem dX11_moveFeature_4 : decode cX11_moveFeature 4 = .ok (.getfield 107, 3) := by decide +kernel
theorem dX11_moveFeature_7 : decode cX11_moveFeature 7 = .ok (.astore 4, 2) := by decide +kernel
theorem dX11_moveFeature_9 : decode cX11_moveFeature 9 = .ok (.aload 4, 2) := by decide +kernel
theorem dX11_moveFeature_11 : decode cX11_moveFeature 11 = .ok (.iload_n 1, 1) := by decide +kernel
theorem dX11_moveFeature_12 : decode cX11_moveFeature 12 = .ok (.invokevirtual 287, 3) := by decide +kernel
theorem dX11_moveFeature_15 : decode cX11_moveFeature 15 = .ok (.ifCond .eq 15, 3) := by decide +kernel
theorem dX11_moveFeature_18 : decode cX11_moveFeature 18 = .ok (.aload_n 0, 1) := by decide +kernel
theorem dX11_moveFeature_19 : decode cX11_moveFeature 19 = .ok (.getfield 10, 3) := by decide +kernel
theorem dX11_moveFeature_22 : decode cX11_moveFeature 22 = .ok (.iload_n 2, 1) := by decide +kernel
theorem dX11_moveFeature_23 : decode cX11_moveFeature 23 = .ok (.iload_n 3, 1) := by decide +kernel
theorem dX11_moveFeature_24 : decode cX11_moveFeature 24 = .ok (.invokevirtual 154, 3) := by decide +kernel
theorem dX11_moveFeature_27 : decode cX11_moveFeature 27 = .ok (.ifCond .ne 5, 3) := by decide +kernel
theorem dX11_moveFeature_30 : decode cX11_moveFeature 30 = .ok (.iconst 0, 1) := by decide +kernel
theorem dX11_moveFeature_31 : decode cX11_moveFeature 31 = .ok (.ireturn, 1) := by decide +kernel
theorem dX11_moveFeature_32 : decode cX11_moveFeature 32 = .ok (.aload_n 0, 1) := by decide +kernel
theorem dX11_moveFeature_33 : decode cX11_moveFeature 33 = .ok (.iconst 3, 1) := by decide +kernel
theorem dX11_moveFeature_34 : decode cX11_moveFeature 34 = .ok (.iload_n 1, 1) := by decide +kernel
theorem dX11_moveFeature_35 : decode cX11_moveFeature 35 = .ok (.aload 4, 2) := by decide +kernel
theorem dX11_moveFeature_37 : decode cX11_moveFeature 37 = .ok (.getfield 290, 3) := by decide +kernel
theorem dX11_moveFeature_40 : decode cX11_moveFeature 40 = .ok (.iload_n 1, 1) := by decide +kernel
theorem dX11_moveFeature_41 : decode cX11_moveFeature 41 = .ok (.iaload, 1) := by decide +kernel
theorem dX11_moveFeature_42 : decode cX11_moveFeature 42 = .ok (.aload 4, 2) := by decide +kernel
theorem dX11_moveFeature_44 : decode cX11_moveFeature 44 = .ok (.getfield 292, 3) := by decide +kernel
theorem dX11_moveFeature_47 : decode cX11_moveFeature 47 = .ok (.iload_n 1, 1) := by decide +kernel
theorem dX11_moveFeature_48 : decode cX11_moveFeature 48 = .ok (.iaload, 1) := by decide +kernel
theorem dX11_moveFeature_49 : decode cX11_moveFeature 49 = .ok (.iconst 0, 1) := by decide +kernel
theorem dX11_moveFeature_50 : decode cX11_moveFeature 50 = .ok (.invokevirtual 133, 3) := by decide +kernel
theorem dX11_moveFeature_53 : decode cX11_moveFeature 53 = .ok (.aload 4, 2) := by decide +kernel
theorem dX11_moveFeature_55 : decode cX11_moveFeature 55 = .ok (.iload_n 1, 1) := by decide +kernel
theorem dX11_moveFeature_56 : decode cX11_moveFeature 56 = .ok (.iload_n 2, 1) := by decide +kernel
theorem dX11_moveFeature_57 : decode cX11_moveFeature 57 = .ok (.iload_n 3, 1) := by decide +kernel
theorem dX11_moveFeature_58 : decode cX11_moveFeature 58 = .ok (.invokevirtual 294, 3) := by decide +kernel
theorem dX11_moveFeature_61 : decode cX11_moveFeature 61 = .ok (.iconst 1, 1) := by decide +kernel
theorem dX11_moveFeature_62 : decode cX11_moveFeature 62 = .ok (.ireturn, 1) := by decide +kernel
theorem dX11_gapCount_0 : decode cX11_gapCount 0 = .ok (.iconst 0, 1) := by decide +kernel
theorem dX11_gapCount_1 : decode cX11_gapCount 1 = .ok (.istore_n 1, 1) := by decide +kernel
theorem dX11_gapCount_2 : decode cX11_gapCount 2 = .ok (.iconst 0, 1) := by decide +kernel
theorem dX11_gapCount_3 : decode cX11_gapCount 3 = .ok (.istore_n 2, 1) := by decide +kernel
theorem dX11_gapCount_4 : decode cX11_gapCount 4 = .ok (.iload_n 2, 1) := by decide +kernel
theorem dX11_gapCount_5 : decode cX11_gapCount 5 = .ok (.aload_n 0, 1) := by decide +kernel
theorem dX11_gapCount_6 : decode cX11_gapCount 6 = .ok (.getfield 10, 3) := by decide +kernel
theorem dX11_gapCount_9 : decode cX11_gapCount 9 = .ok (.getfield 95, 3) := by decide +kernel
theorem dX11_gapCount_12 : decode cX11_gapCount 12 = .ok (.if_icmp .ge 23, 3) := by decide +kernel
theorem dX11_gapCount_15 : decode cX11_gapCount 15 = .ok (.aload_n 0, 1) := by decide +kernel
theorem dX11_gapCount_16 : decode cX11_gapCount 16 = .ok (.getfield 10, 3) := by decide +kernel
theorem dX11_gapCount_19 : decode cX11_gapCount 19 = .ok (.iload_n 2, 1) := by decide +kernel
theorem dX11_gapCount_20 : decode cX11_gapCount 20 = .ok (.invokevirtual 298, 3) := by decide +kernel
theorem dX11_gapCount_23 : decode cX11_gapCount 23 = .ok (.ifCond .le 6, 3) := by decide +kernel
theorem dX11_gapCount_26 : decode cX11_gapCount 26 = .ok (.iinc 1 1, 3) := by decide +kernel
theorem dX11_gapCount_29 : decode cX11_gapCount 29 = .ok (.iinc 2 1, 3) := by decide +kernel
theorem dX11_gapCount_32 : decode cX11_gapCount 32 = .ok (.goto (-28), 3) := by decide +kernel
theorem dX11_gapCount_35 : decode cX11_gapCount 35 = .ok (.iload_n 1, 1) := by decide +kernel
theorem dX11_gapCount_36 : decode cX11_gapCount 36 = .ok (.ireturn, 1) := by decide +kernel
theorem dX11_gapStart_0 : decode cX11_gapStart 0 = .ok (.aload_n 0, 1) := by decide +kernel
theorem dX11_gapStart_1 : decode cX11_gapStart 1 = .ok (.iload_n 1, 1) := by decide +kernel
theorem dX11_gapStart_2 : decode cX11_gapStart 2 = .ok (.invokevirtual 301, 3) := by decide +kernel
theorem dX11_gapStart_5 : decode cX11_gapStart 5 = .ok (.istore_n 2, 1) := by decide +kernel
theorem dX11_gapStart_6 : decode cX11_gapStart 6 = .ok (.iload_n 2, 1) := by decide +kernel
theorem dX11_gapStart_7 : decode cX11_gapStart 7 = .ok (.iconst (-1), 1) := by decide +kernel
theorem dX11_gapStart_8 : decode cX11_gapStart 8 = .ok (.if_icmp .ne 7, 3) := by decide +kernel
theorem dX11_gapStart_11 : decode cX11_gapStart 11 = .ok (.iconst (-1), 1) := by decide +kernel
theorem dX11_gapStart_12 : decode cX11_gapStart 12 = .ok (.goto 11, 3) := by decide +kernel
theorem dX11_gapStart_15 : decode cX11_gapStart 15 = .ok (.aload_n 0, 1) := by decide +kernel
theorem dX11_gapStart_16 : decode cX11_gapStart 16 = .ok (.getfield 10, 3) := by decide +kernel
theorem dX11_gapStart_19 : decode cX11_gapStart 19 = .ok (.iload_n 2, 1) := by decide +kernel
theorem dX11_gapStart_20 : decode cX11_gapStart 20 = .ok (.invokevirtual 140, 3) := by decide +kernel
theorem dX11_gapStart_23 : decode cX11_gapStart 23 = .ok (.ireturn, 1) := by decide +kernel
theorem dX11_gapDays_0 : decode cX11_gapDays 0 = .ok (.aload_n 0, 1) := by decide +kernel
theorem dX11_gapDays_1 : decode cX11_gapDays 1 = .ok (.iload_n 1, 1) := by decide +kernel
theorem dX11_gapDays_2 : decode cX11_gapDays 2 = .ok (.invokevirtual 301, 3) := by decide +kernel
theorem dX11_gapDays_5 : decode cX11_gapDays 5 = .ok (.istore_n 2, 1) := by decide +kernel
theorem dX11_gapDays_6 : decode cX11_gapDays 6 = .ok (.iload_n 2, 1) := by decide +kernel
theorem dX11_gapDays_7 : decode cX11_gapDays 7 = .ok (.iconst (-1), 1) := by decide +kernel
theorem dX11_gapDays_8 : decode cX11_gapDays 8 = .ok (.if_icmp .ne 7, 3) := by decide +kernel
theorem dX11_gapDays_11 : decode cX11_gapDays 11 = .ok (.iconst (-1), 1) := by decide +kernel
theorem dX11_gapDays_12 : decode cX11_gapDays 12 = .ok (.goto 11, 3) := by decide +kernel
theorem dX11_gapDays_15 : decode cX11_gapDays 15 = .ok (.aload_n 0, 1) := by decide +kernel
theorem dX11_gapDays_16 : decode cX11_gapDays 16 = .ok (.getfield 10, 3) := by decide +kernel
theorem dX11_gapDays_19 : decode cX11_gapDays 19 = .ok (.iload_n 2, 1) := by decide +kernel
theorem dX11_gapDays_20 : decode cX11_gapDays 20 = .ok (.invokevirtual 298, 3) := by decide +kernel
theorem dX11_gapDays_23 : decode cX11_gapDays 23 = .ok (.ireturn, 1) := by decide +kernel
theorem dX11_longestGap_0 : decode cX11_longestGap 0 = .ok (.iconst 0, 1) := by decide +kernel
theorem dX11_longestGap_1 : decode cX11_longestGap 1 = .ok (.istore_n 1, 1) := by decide +kernel
theorem dX11_longestGap_2 : decode cX11_longestGap 2 = .ok (.iconst 0, 1) := by decide +kernel
theorem dX11_longestGap_3 : decode cX11_longestGap 3 = .ok (.istore_n 2, 1) := by decide +kernel
theorem dX11_longestGap_4 : decode cX11_longestGap 4 = .ok (.iload_n 2, 1) := by decide +kernel
theorem dX11_longestGap_5 : decode cX11_longestGap 5 = .ok (.aload_n 0, 1) := by decide +kernel
theorem dX11_longestGap_6 : decode cX11_longestGap 6 = .ok (.getfield 10, 3) := by decide +kernel
theorem dX11_longestGap_9 : decode cX11_longestGap 9 = .ok (.getfield 95, 3) := by decide +kernel
theorem dX11_longestGap_12 : decode cX11_longestGap 12 = .ok (.if_icmp .ge 22, 3) := by decide +kernel
theorem dX11_longestGap_15 : decode cX11_longestGap 15 = .ok (.iload_n 1, 1) := by decide +kernel
theorem dX11_longestGap_16 : decode cX11_longestGap 16 = .ok (.aload_n 0, 1) := by decide +kernel
theorem dX11_longestGap_17 : decode cX11_longestGap 17 = .ok (.getfield 10, 3) := by decide +kernel
theorem dX11_longestGap_20 : decode cX11_longestGap 20 = .ok (.iload_n 2, 1) := by decide +kernel
theorem dX11_longestGap_21 : decode cX11_longestGap 21 = .ok (.invokevirtual 298, 3) := by decide +kernel
theorem dX11_longestGap_24 : decode cX11_longestGap 24 = .ok (.invokestatic 304, 3) := by decide +kernel
theorem dX11_longestGap_27 : decode cX11_longestGap 27 = .ok (.istore_n 1, 1) := by decide +kernel
theorem dX11_longestGap_28 : decode cX11_longestGap 28 = .ok (.iinc 2 1, 3) := by decide +kernel
theorem dX11_longestGap_31 : decode cX11_longestGap 31 = .ok (.goto (-27), 3) := by decide +kernel
theorem dX11_longestGap_34 : decode cX11_longestGap 34 = .ok (.iload_n 1, 1) := by decide +kernel
theorem dX11_longestGap_35 : decode cX11_longestGap 35 = .ok (.ireturn, 1) := by decide +kernel
theorem dX11_readingCount_0 : decode cX11_readingCount 0 = .ok (.aload_n 0, 1) := by decide +kernel
theorem dX11_readingCount_1 : decode cX11_readingCount 1 = .ok (.iload_n 1, 1) := by decide +kernel
theorem dX11_readingCount_2 : decode cX11_readingCount 2 = .ok (.invokevirtual 309, 3) := by decide +kernel
theorem dX11_readingCount_5 : decode cX11_readingCount 5 = .ok (.aload_n 0, 1) := by decide +kernel
theorem dX11_readingCount_6 : decode cX11_readingCount 6 = .ok (.getfield 10, 3) := by decide +kernel
theorem dX11_readingCount_9 : decode cX11_readingCount 9 = .ok (.getfield 312, 3) := by decide +kernel
theorem dX11_readingCount_12 : decode cX11_readingCount 12 = .ok (.iload_n 1, 1) := by decide +kernel
theorem dX11_readingCount_13 : decode cX11_readingCount 13 = .ok (.aaload, 1) := by decide +kernel
theorem dX11_readingCount_14 : decode cX11_readingCount 14 = .ok (.getfield 316, 3) := by decide +kernel
theorem dX11_readingCount_17 : decode cX11_readingCount 17 = .ok (.ireturn, 1) := by decide +kernel
theorem dX11_readingDay_0 : decode cX11_readingDay 0 = .ok (.aload_n 0, 1) := by decide +kernel
theorem dX11_readingDay_1 : decode cX11_readingDay 1 = .ok (.iload_n 1, 1) := by decide +kernel
theorem dX11_readingDay_2 : decode cX11_readingDay 2 = .ok (.iload_n 2, 1) := by decide +kernel
theorem dX11_readingDay_3 : decode cX11_readingDay 3 = .ok (.invokevirtual 319, 3) := by decide +kernel
theorem dX11_readingDay_6 : decode cX11_readingDay 6 = .ok (.aload_n 0, 1) := by decide +kernel
theorem dX11_readingDay_7 : decode cX11_readingDay 7 = .ok (.getfield 10, 3) := by decide +kernel
theorem dX11_readingDay_10 : decode cX11_readingDay 10 = .ok (.getfield 312, 3) := by decide +kernel
theorem dX11_readingDay_13 : decode cX11_readingDay 13 = .ok (.iload_n 1, 1) := by decide +kernel
theorem dX11_readingDay_14 : decode cX11_readingDay 14 = .ok (.aaload, 1) := by decide +kernel
theorem dX11_readingDay_15 : decode cX11_readingDay 15 = .ok (.getfield 322, 3) := by decide +kernel
theorem dX11_readingDay_18 : decode cX11_readingDay 18 = .ok (.iload_n 2, 1) := by decide +kernel
theorem dX11_readingDay_19 : decode cX11_readingDay 19 = .ok (.iaload, 1) := by decide +kernel
theorem dX11_readingDay_20 : decode cX11_readingDay 20 = .ok (.ireturn, 1) := by decide +kernel
theorem dX11_readingLength_0 : decode cX11_readingLength 0 = .ok (.aload_n 0, 1) := by decide +kernel
theorem dX11_readingLength_1 : decode cX11_readingLength 1 = .ok (.iload_n 1, 1) := by decide +kernel
theorem dX11_readingLength_2 : decode cX11_readingLength 2 = .ok (.iload_n 2, 1) := by decide +kernel
theorem dX11_readingLength_3 : decode cX11_readingLength 3 = .ok (.invokevirtual 319, 3) := by decide +kernel
theorem dX11_readingLength_6 : decode cX11_readingLength 6 = .ok (.aload_n 0, 1) := by decide +kernel
theorem dX11_readingLength_7 : decode cX11_readingLength 7 = .ok (.getfield 10, 3) := by decide +kernel
theorem dX11_readingLength_10 : decode cX11_readingLength 10 = .ok (.getfield 312, 3) := by decide +kernel
theorem dX11_readingLength_13 : decode cX11_readingLength 13 = .ok (.iload_n 1, 1) := by decide +kernel
theorem dX11_readingLength_14 : decode cX11_readingLength 14 = .ok (.aaload, 1) := by decide +kernel
theorem dX11_readingLength_15 : decode cX11_readingLength 15 = .ok (.getfield 325, 3) := by decide +kernel
theorem dX11_readingLength_18 : decode cX11_readingLength 18 = .ok (.iload_n 2, 1) := by decide +kernel
theorem dX11_readingLength_19 : decode cX11_readingLength 19 = .ok (.iaload, 1) := by decide +kernel
theorem dX11_readingLength_20 : decode cX11_readingLength 20 = .ok (.ireturn, 1) := by decide +kernel
theorem dX11_addReading_0 : decode cX11_addReading 0 = .ok (.aload_n 0, 1) := by decide +kernel
theorem dX11_addReading_1 : decode cX11_addReading 1 = .ok (.getfield 10, 3) := by decide +kernel
theorem dX11_addReading_4 : decode cX11_addReading 4 = .ok (.iload_n 1, 1) := by decide +kernel
theorem dX11_addReading_5 : decode cX11_addReading 5 = .ok (.invokevirtual 328, 3) := by decide +kernel
theorem dX11_addReading_8 : decode cX11_addReading 8 = .ok (.ifCond .ne 5, 3) := by decide +kernel
theorem dX11_addReading_11 : decode cX11_addReading 11 = .ok (.iconst (-1), 1) := by decide +kernel
theorem dX11_addReading_12 : decode cX11_addReading 12 = .ok (.ireturn, 1) := by decide +kernel
theorem dX11_addReading_13 : decode cX11_addReading 13 = .ok (.aload_n 0, 1) := by decide +kernel
theorem dX11_addReading_14 : decode cX11_addReading 14 = .ok (.getfield 10, 3) := by decide +kernel
theorem dX11_addReading_17 : decode cX11_addReading 17 = .ok (.getfield 312, 3) := by decide +kernel
theorem dX11_addReading_20 : decode cX11_addReading 20 = .ok (.iload_n 1, 1) := by decide +kernel
theorem dX11_addReading_21 : decode cX11_addReading 21 = .ok (.aaload, 1) := by decide +kernel
theorem dX11_addReading_22 : decode cX11_addReading 22 = .ok (.astore 4, 2) := by decide +kernel
theorem dX11_addReading_24 : decode cX11_addReading 24 = .ok (.iload_n 2, 1) := by decide +kernel
theorem dX11_addReading_25 : decode cX11_addReading 25 = .ok (.iconst 0, 1) := by decide +kernel
theorem dX11_addReading_26 : decode cX11_addReading 26 = .ok (.sipush 9999, 3) := by decide +kernel
theorem dX11_addReading_29 : decode cX11_addReading 29 = .ok (.invokestatic 127, 3) := by decide +kernel
theorem dX11_addReading_32 : decode cX11_addReading 32 = .ok (.ifCond .eq 24, 3) := by decide +kernel
theorem dX11_addReading_35 : decode cX11_addReading 35 = .ok (.iload_n 3, 1) := by decide +kernel
theorem dX11_addReading_36 : decode cX11_addReading 36 = .ok (.iconst 0, 1) := by decide +kernel
theorem dX11_addReading_37 : decode cX11_addReading 37 = .ok (.sipush 9999, 3) := by decide +kernel
theorem dX11_addReading_40 : decode cX11_addReading 40 = .ok (.invokestatic 127, 3) := by decide +kernel
theorem dX11_addReading_43 : decode cX11_addReading 43 = .ok (.ifCond .eq 13, 3) := by decide +kernel
theorem dX11_addReading_46 : decode cX11_addReading 46 = .ok (.aload 4, 2) := by decide +kernel
theorem dX11_addReading_48 : decode cX11_addReading 48 = .ok (.iload_n 2, 1) := by decide +kernel
theorem dX11_addReading_49 : decode cX11_addReading 49 = .ok (.invokevirtual 331, 3) := by decide +kernel
theorem dX11_addReading_52 : decode cX11_addReading 52 = .ok (.iconst (-1), 1) := by decide +kernel
theorem dX11_addReading_53 : decode cX11_addReading 53 = .ok (.if_icmp .eq 6, 3) := by decide +kernel
theorem dX11_addReading_56 : decode cX11_addReading 56 = .ok (.bipush (-2), 2) := by decide +kernel
theorem dX11_addReading_58 : decode cX11_addReading 58 = .ok (.ireturn, 1) := by decide +kernel
theorem dX11_addReading_59 : decode cX11_addReading 59 = .ok (.aload 4, 2) := by decide +kernel
theorem dX11_addReading_61 : decode cX11_addReading 61 = .ok (.getfield 316, 3) := by decide +kernel
theorem dX11_addReading_64 : decode cX11_addReading 64 = .ok (.bipush 8, 2) := by decide +kernel
theorem dX11_addReading_66 : decode cX11_addReading 66 = .ok (.if_icmp .lt 6, 3) := by decide +kernel
theorem dX11_addReading_69 : decode cX11_addReading 69 = .ok (.bipush (-3), 2) := by decide +kernel
theorem dX11_addReading_71 : decode cX11_addReading 71 = .ok (.ireturn, 1) := by decide +kernel
theorem dX11_addReading_72 : decode cX11_addReading 72 = .ok (.aload_n 0, 1) := by decide +kernel
theorem dX11_addReading_73 : decode cX11_addReading 73 = .ok (.iconst 4, 1) := by decide +kernel
theorem dX11_addReading_74 : decode cX11_addReading 74 = .ok (.iload_n 1, 1) := by decide +kernel
theorem dX11_addReading_75 : decode cX11_addReading 75 = .ok (.iload_n 2, 1) := by decide +kernel
theorem dX11_addReading_76 : decode cX11_addReading 76 = .ok (.iconst 0, 1) := by decide +kernel
theorem dX11_addReading_77 : decode cX11_addReading 77 = .ok (.iconst 0, 1) := by decide +kernel
theorem dX11_addReading_78 : decode cX11_addReading 78 = .ok (.invokevirtual 133, 3) := by decide +kernel
theorem dX11_addReading_81 : decode cX11_addReading 81 = .ok (.aload 4, 2) := by decide +kernel
theorem dX11_addReading_83 : decode cX11_addReading 83 = .ok (.iload_n 2, 1) := by decide +kernel
theorem dX11_addReading_84 : decode cX11_addReading 84 = .ok (.iload_n 3, 1) := by decide +kernel
theorem dX11_addReading_85 : decode cX11_addReading 85 = .ok (.invokevirtual 334, 3) := by decide +kernel
theorem dX11_addReading_88 : decode cX11_addReading 88 = .ok (.aload 4, 2) := by decide +kernel
theorem dX11_addReading_90 : decode cX11_addReading 90 = .ok (.getfield 316, 3) := by decide +kernel
theorem dX11_addReading_93 : decode cX11_addReading 93 = .ok (.ireturn, 1) := by decide +kernel
theorem dX11_removeReading_0 : decode cX11_removeReading 0 = .ok (.aload_n 0, 1) := by decide +kernel
theorem dX11_removeReading_1 : decode cX11_removeReading 1 = .ok (.getfield 10, 3) := by decide +kernel
theorem dX11_removeReading_4 : decode cX11_removeReading 4 = .ok (.iload_n 1, 1) := by decide +kernel
theorem dX11_removeReading_5 : decode cX11_removeReading 5 = .ok (.invokevirtual 328, 3) := by decide +kernel
theorem dX11_removeReading_8 : decode cX11_removeReading 8 = .ok (.ifCond .ne 5, 3) := by decide +kernel
theorem dX11_removeReading_11 : decode cX11_removeReading 11 = .ok (.iconst (-1), 1) := by decide +kernel
theorem dX11_removeReading_12 : decode cX11_removeReading 12 = .ok (.ireturn, 1) := by decide +kernel
theorem dX11_removeReading_13 : decode cX11_removeReading 13 = .ok (.aload_n 0, 1) := by decide +kernel
theorem dX11_removeReading_14 : decode cX11_removeReading 14 = .ok (.getfield 10, 3) := by decide +kernel
theorem dX11_removeReading_17 : decode cX11_removeReading 17 = .ok (.getfield 312, 3) := by decide +kernel
theorem dX11_removeReading_20 : decode cX11_removeReading 20 = .ok (.iload_n 1, 1) := by decide +kernel
theorem dX11_removeReading_21 : decode cX11_removeReading 21 = .ok (.aaload, 1) := by decide +kernel
theorem dX11_removeReading_22 : decode cX11_removeReading 22 = .ok (.astore_n 3, 1) := by decide +kernel
theorem dX11_removeReading_23 : decode cX11_removeReading 23 = .ok (.aload_n 3, 1) := by decide +kernel
theorem dX11_removeReading_24 : decode cX11_removeReading 24 = .ok (.iload_n 2, 1) := by decide +kernel
theorem dX11_removeReading_25 : decode cX11_removeReading 25 = .ok (.invokevirtual 331, 3) := by decide +kernel
theorem dX11_removeReading_28 : decode cX11_removeReading 28 = .ok (.istore 4, 2) := by decide +kernel
theorem dX11_removeReading_30 : decode cX11_removeReading 30 = .ok (.iload 4, 2) := by decide +kernel
theorem dX11_removeReading_32 : decode cX11_removeReading 32 = .ok (.iconst (-1), 1) := by decide +kernel
theorem dX11_removeReading_33 : decode cX11_removeReading 33 = .ok (.if_icmp .ne 5, 3) := by decide +kernel
theorem dX11_removeReading_36 : decode cX11_removeReading 36 = .ok (.iconst (-1), 1) := by decide +kernel
theorem dX11_removeReading_37 : decode cX11_removeReading 37 = .ok (.ireturn, 1) := by decide +kernel
theorem dX11_removeReading_38 : decode cX11_removeReading 38 = .ok (.aload_n 0, 1) := by decide +kernel
theorem dX11_removeReading_39 : decode cX11_removeReading 39 = .ok (.iconst 5, 1) := by decide +kernel
theorem dX11_removeReading_40 : decode cX11_removeReading 40 = .ok (.iload_n 1, 1) := by decide +kernel
theorem dX11_removeReading_41 : decode cX11_removeReading 41 = .ok (.iload_n 2, 1) := by decide +kernel
theorem dX11_removeReading_42 : decode cX11_removeReading 42 = .ok (.iconst 0, 1) := by decide +kernel
theorem dX11_removeReading_43 : decode cX11_removeReading 43 = .ok (.aload_n 3, 1) := by decide +kernel
theorem dX11_removeReading_44 : decode cX11_removeReading 44 = .ok (.getfield 325, 3) := by decide +kernel
theorem dX11_removeReading_47 : decode cX11_removeReading 47 = .ok (.iload 4, 2) := by decide +kernel
theorem dX11_removeReading_49 : decode cX11_removeReading 49 = .ok (.iaload, 1) := by decide +kernel
theorem dX11_removeReading_50 : decode cX11_removeReading 50 = .ok (.invokevirtual 133, 3) := by decide +kernel
theorem dX11_removeReading_53 : decode cX11_removeReading 53 = .ok (.aload_n 3, 1) := by decide +kernel
theorem dX11_removeReading_54 : decode cX11_removeReading 54 = .ok (.iload_n 2, 1) := by decide +kernel
theorem dX11_removeReading_55 : decode cX11_removeReading 55 = .ok (.invokevirtual 337, 3) := by decide +kernel
theorem dX11_removeReading_58 : decode cX11_removeReading 58 = .ok (.aload_n 3, 1) := by decide +kernel
theorem dX11_removeReading_59 : decode cX11_removeReading 59 = .ok (.getfield 316, 3) := by decide +kernel
theorem dX11_removeReading_62 : decode cX11_removeReading 62 = .ok (.ireturn, 1) := by decide +kernel
theorem dX11_drillCount_0 : decode cX11_drillCount 0 = .ok (.aload_n 0, 1) := by decide +kernel
theorem dX11_drillCount_1 : decode cX11_drillCount 1 = .ok (.iload_n 1, 1) := by decide +kernel
theorem dX11_drillCount_2 : decode cX11_drillCount 2 = .ok (.invokevirtual 309, 3) := by decide +kernel
theorem dX11_drillCount_5 : decode cX11_drillCount 5 = .ok (.aload_n 0, 1) := by decide +kernel
theorem dX11_drillCount_6 : decode cX11_drillCount 6 = .ok (.getfield 10, 3) := by decide +kernel
theorem dX11_drillCount_9 : decode cX11_drillCount 9 = .ok (.getfield 312, 3) := by decide +kernel
theorem dX11_drillCount_12 : decode cX11_drillCount 12 = .ok (.iload_n 1, 1) := by decide +kernel
theorem dX11_drillCount_13 : decode cX11_drillCount 13 = .ok (.aaload, 1) := by decide +kernel
theorem dX11_drillCount_14 : decode cX11_drillCount 14 = .ok (.astore_n 2, 1) := by decide +kernel
theorem dX11_drillCount_15 : decode cX11_drillCount 15 = .ok (.iconst 0, 1) := by decide +kernel
theorem dX11_drillCount_16 : decode cX11_drillCount 16 = .ok (.istore_n 3, 1) := by decide +kernel
theorem dX11_drillCount_17 : decode cX11_drillCount 17 = .ok (.iconst 0, 1) := by decide +kernel
theorem dX11_drillCount_18 : decode cX11_drillCount 18 = .ok (.istore 4, 2) := by decide +kernel
theorem dX11_drillCount_20 : decode cX11_drillCount 20 = .ok (.iload 4, 2) := by decide +kernel
theorem dX11_drillCount_22 : decode cX11_drillCount 22 = .ok (.aload_n 2, 1) := by decide +kernel
theorem dX11_drillCount_23 : decode cX11_drillCount 23 = .ok (.getfield 316, 3) := by decide +kernel
theorem dX11_drillCount_26 : decode cX11_drillCount 26 = .ok (.iconst 1, 1) := by decide +kernel
theorem dX11_drillCount_27 : decode cX11_drillCount 27 = .ok (.isub, 1) := by decide +kernel
theorem dX11_drillCount_28 : decode cX11_drillCount 28 = .ok (.if_icmp .ge 21, 3) := by decide +kernel
theorem dX11_drillCount_31 : decode cX11_drillCount 31 = .ok (.aload_n 2, 1) := by decide +kernel
theorem dX11_drillCount_32 : decode cX11_drillCount 32 = .ok (.iload 4, 2) := by decide +kernel
theorem dX11_drillCount_34 : decode cX11_drillCount 34 = .ok (.invokevirtual 340, 3) := by decide +kernel
theorem dX11_drillCount_37 : decode cX11_drillCount 37 = .ok (.ifCond .eq 6, 3) := by decide +kernel
theorem dX11_drillCount_40 : decode cX11_drillCount 40 = .ok (.iinc 3 1, 3) := by decide +kernel
theorem dX11_drillCount_43 : decode cX11_drillCount 43 = .ok (.iinc 4 1, 3) := by decide +kernel
theorem dX11_drillCount_46 : decode cX11_drillCount 46 = .ok (.goto (-26), 3) := by decide +kernel
theorem dX11_drillCount_49 : decode cX11_drillCount 49 = .ok (.iload_n 3, 1) := by decide +kernel
theorem dX11_drillCount_50 : decode cX11_drillCount 50 = .ok (.ireturn, 1) := by decide +kernel
theorem dX11_meltTo_0 : decode cX11_meltTo 0 = .ok (.aload_n 0, 1) := by decide +kernel
theorem dX11_meltTo_1 : decode cX11_meltTo 1 = .ok (.iload_n 1, 1) := by decide +kernel
theorem dX11_meltTo_2 : decode cX11_meltTo 2 = .ok (.invokevirtual 309, 3) := by decide +kernel
theorem dX11_meltTo_5 : decode cX11_meltTo 5 = .ok (.aload_n 0, 1) := by decide +kernel
theorem dX11_meltTo_6 : decode cX11_meltTo 6 = .ok (.getfield 10, 3) := by decide +kernel
theorem dX11_meltTo_9 : decode cX11_meltTo 9 = .ok (.getfield 312, 3) := by decide +kernel
theorem dX11_meltTo_12 : decode cX11_meltTo 12 = .ok (.iload_n 1, 1) := by decide +kernel
theorem dX11_meltTo_13 : decode cX11_meltTo 13 = .ok (.aaload, 1) := by decide +kernel
theorem dX11_meltTo_14 : decode cX11_meltTo 14 = .ok (.iload_n 2, 1) := by decide +kernel
theorem dX11_meltTo_15 : decode cX11_meltTo 15 = .ok (.invokevirtual 343, 3) := by decide +kernel
theorem dX11_meltTo_18 : decode cX11_meltTo 18 = .ok (.ireturn, 1) := by decide +kernel
theorem dX11_melt_0 : decode cX11_melt 0 = .ok (.aload_n 0, 1) := by decide +kernel
theorem dX11_melt_1 : decode cX11_melt 1 = .ok (.iload_n 1, 1) := by decide +kernel
theorem dX11_melt_2 : decode cX11_melt 2 = .ok (.invokevirtual 309, 3) := by decide +kernel
theorem dX11_melt_5 : decode cX11_melt 5 = .ok (.aload_n 0, 1) := by decide +kernel
theorem dX11_melt_6 : decode cX11_melt 6 = .ok (.getfield 10, 3) := by decide +kernel
theorem dX11_melt_9 : decode cX11_melt 9 = .ok (.getfield 312, 3) := by decide +kernel
theorem dX11_melt_12 : decode cX11_melt 12 = .ok (.iload_n 1, 1) := by decide +kernel
theorem dX11_melt_13 : decode cX11_melt 13 = .ok (.aaload, 1) := by decide +kernel
theorem dX11_melt_14 : decode cX11_melt 14 = .ok (.iload_n 2, 1) := by decide +kernel
theorem dX11_melt_15 : decode cX11_melt 15 = .ok (.iload_n 3, 1) := by decide +kernel
theorem dX11_melt_16 : decode cX11_melt 16 = .ok (.invokevirtual 346, 3) := by decide +kernel
theorem dX11_melt_19 : decode cX11_melt 19 = .ok (.ireturn, 1) := by decide +kernel
theorem dX11_meanMelt_0 : decode cX11_meanMelt 0 = .ok (.aload_n 0, 1) := by decide +kernel
theorem dX11_meanMelt_1 : decode cX11_meanMelt 1 = .ok (.iload_n 1, 1) := by decide +kernel
theorem dX11_meanMelt_2 : decode cX11_meanMelt 2 = .ok (.iload_n 2, 1) := by decide +kernel
theorem dX11_meanMelt_3 : decode cX11_meanMelt 3 = .ok (.invokevirtual 349, 3) := by decide +kernel
theorem dX11_meanMelt_6 : decode cX11_meanMelt 6 = .ok (.ireturn, 1) := by decide +kernel
theorem dX11_warmestInterval_0 : decode cX11_warmestInterval 0 = .ok (.aload_n 0, 1) := by decide +kernel
theorem dX11_warmestInterval_1 : decode cX11_warmestInterval 1 = .ok (.iload_n 1, 1) := by decide +kernel
theorem dX11_warmestInterval_2 : decode cX11_warmestInterval 2 = .ok (.invokevirtual 309, 3) := by decide +kernel
theorem dX11_warmestInterval_5 : decode cX11_warmestInterval 5 = .ok (.aload_n 0, 1) := by decide +kernel
theorem dX11_warmestInterval_6 : decode cX11_warmestInterval 6 = .ok (.getfield 10, 3) := by decide +kernel
theorem dX11_warmestInterval_9 : decode cX11_warmestInterval 9 = .ok (.getfield 312, 3) := by decide +kernel
theorem dX11_warmestInterval_12 : decode cX11_warmestInterval 12 = .ok (.iload_n 1, 1) := by decide +kernel
theorem dX11_warmestInterval_13 : decode cX11_warmestInterval 13 = .ok (.aaload, 1) := by decide +kernel
theorem dX11_warmestInterval_14 : decode cX11_warmestInterval 14 = .ok (.astore_n 2, 1) := by decide +kernel
theorem dX11_warmestInterval_15 : decode cX11_warmestInterval 15 = .ok (.iconst (-1), 1) := by decide +kernel
theorem dX11_warmestInterval_16 : decode cX11_warmestInterval 16 = .ok (.istore_n 3, 1) := by decide +kernel
theorem dX11_warmestInterval_17 : decode cX11_warmestInterval 17 = .ok (.iconst 0, 1) := by decide +kernel
theorem dX11_warmestInterval_18 : decode cX11_warmestInterval 18 = .ok (.istore 4, 2) := by decide +kernel
theorem dX11_warmestInterval_20 : decode cX11_warmestInterval 20 = .ok (.iload 4, 2) := by decide +kernel
theorem dX11_warmestInterval_22 : decode cX11_warmestInterval 22 = .ok (.aload_n 2, 1) := by decide +kernel
theorem dX11_warmestInterval_23 : decode cX11_warmestInterval 23 = .ok (.getfield 316, 3) := by decide +kernel
theorem dX11_warmestInterval_26 : decode cX11_warmestInterval 26 = .ok (.iconst 1, 1) := by decide +kernel
theorem dX11_warmestInterval_27 : decode cX11_warmestInterval 27 = .ok (.isub, 1) := by decide +kernel
theorem dX11_warmestInterval_28 : decode cX11_warmestInterval 28 = .ok (.if_icmp .ge 27, 3) := by decide +kernel
theorem dX11_warmestInterval_31 : decode cX11_warmestInterval 31 = .ok (.iload_n 3, 1) := by decide +kernel
theorem dX11_warmestInterval_32 : decode cX11_warmestInterval 32 = .ok (.iconst (-1), 1) := by decide +kernel
theorem dX11_warmestInterval_33 : decode cX11_warmestInterval 33 = .ok (.if_icmp .eq 13, 3) := by decide +kernel
theorem dX11_warmestInterval_36 : decode cX11_warmestInterval 36 = .ok (.aload_n 2, 1) := by decide +kernel
theorem dX11_warmestInterval_37 : decode cX11_warmestInterval 37 = .ok (.iload 4, 2) := by decide +kernel
theorem dX11_warmestInterval_39 : decode cX11_warmestInterval 39 = .ok (.iload_n 3, 1) := by decide +kernel
theorem dX11_warmestInterval_40 : decode cX11_warmestInterval 40 = .ok (.invokevirtual 352, 3) := by decide +kernel
theorem dX11_warmestInterval_43 : decode cX11_warmestInterval 43 = .ok (.ifCond .eq 6, 3) := by decide +kernel
theorem dX11_warmestInterval_46 : decode cX11_warmestInterval 46 = .ok (.iload 4, 2) := by decide +kernel
theorem dX11_warmestInterval_48 : decode cX11_warmestInterval 48 = .ok (.istore_n 3, 1) := by decide +kernel
theorem dX11_warmestInterval_49 : decode cX11_warmestInterval 49 = .ok (.iinc 4 1, 3) := by decide +kernel
theorem dX11_warmestInterval_52 : decode cX11_warmestInterval 52 = .ok (.goto (-32), 3) := by decide +kernel
theorem dX11_warmestInterval_55 : decode cX11_warmestInterval 55 = .ok (.iload_n 3, 1) := by decide +kernel
theorem dX11_warmestInterval_56 : decode cX11_warmestInterval 56 = .ok (.ireturn, 1) := by decide +kernel
theorem dX11_undo_0 : decode cX11_undo 0 = .ok (.aload_n 0, 1) := by decide +kernel
theorem dX11_undo_1 : decode cX11_undo 1 = .ok (.getfield 26, 3) := by decide +kernel
theorem dX11_undo_4 : decode cX11_undo 4 = .ok (.getfield 355, 3) := by decide +kernel
theorem dX11_undo_7 : decode cX11_undo 7 = .ok (.ifCond .ne 5, 3) := by decide +kernel
theorem dX11_undo_10 : decode cX11_undo 10 = .ok (.iconst (-1), 1) := by decide +kernel
theorem dX11_undo_11 : decode cX11_undo 11 = .ok (.ireturn, 1) := by decide +kernel
theorem dX11_undo_12 : decode cX11_undo 12 = .ok (.aload_n 0, 1) := by decide +kernel
theorem dX11_undo_13 : decode cX11_undo 13 = .ok (.getfield 26, 3) := by decide +kernel
theorem dX11_undo_16 : decode cX11_undo 16 = .ok (.invokevirtual 356, 3) := by decide +kernel
theorem dX11_undo_19 : decode cX11_undo 19 = .ok (.aload_n 0, 1) := by decide +kernel
theorem dX11_undo_20 : decode cX11_undo 20 = .ok (.getfield 10, 3) := by decide +kernel
theorem dX11_undo_23 : decode cX11_undo 23 = .ok (.invokevirtual 360, 3) := by decide +kernel
theorem dX11_undo_26 : decode cX11_undo 26 = .ok (.aload_n 0, 1) := by decide +kernel
theorem dX11_undo_27 : decode cX11_undo 27 = .ok (.dup, 1) := by decide +kernel
theorem dX11_undo_28 : decode cX11_undo 28 = .ok (.getfield 59, 3) := by decide +kernel
theorem dX11_undo_31 : decode cX11_undo 31 = .ok (.iconst 1, 1) := by decide +kernel
theorem dX11_undo_32 : decode cX11_undo 32 = .ok (.iadd, 1) := by decide +kernel
theorem dX11_undo_33 : decode cX11_undo 33 = .ok (.putfield 59, 3) := by decide +kernel
theorem dX11_undo_36 : decode cX11_undo 36 = .ok (.aload_n 0, 1) := by decide +kernel
theorem dX11_undo_37 : decode cX11_undo 37 = .ok (.getfield 26, 3) := by decide +kernel
theorem dX11_undo_40 : decode cX11_undo 40 = .ok (.getfield 355, 3) := by decide +kernel
theorem dX11_undo_43 : decode cX11_undo 43 = .ok (.ireturn, 1) := by decide +kernel
theorem dX11_undoCount_0 : decode cX11_undoCount 0 = .ok (.aload_n 0, 1) := by decide +kernel
theorem dX11_undoCount_1 : decode cX11_undoCount 1 = .ok (.getfield 26, 3) := by decide +kernel
theorem dX11_undoCount_4 : decode cX11_undoCount 4 = .ok (.getfield 355, 3) := by decide +kernel
theorem dX11_undoCount_7 : decode cX11_undoCount 7 = .ok (.ireturn, 1) := by decide +kernel
theorem dX11_registered_0 : decode cX11_registered 0 = .ok (.aload_n 0, 1) := by decide +kernel
theorem dX11_registered_1 : decode cX11_registered 1 = .ok (.iload_n 1, 1) := by decide +kernel
theorem dX11_registered_2 : decode cX11_registered 2 = .ok (.invokevirtual 137, 3) := by decide +kernel
theorem dX11_registered_5 : decode cX11_registered 5 = .ok (.aload_n 0, 1) := by decide +kernel
theorem dX11_registered_6 : decode cX11_registered 6 = .ok (.iload_n 2, 1) := by decide +kernel
theorem dX11_registered_7 : decode cX11_registered 7 = .ok (.iload_n 3, 1) := by decide +kernel
theorem dX11_registered_8 : decode cX11_registered 8 = .ok (.invokevirtual 143, 3) := by decide +kernel
theorem dX11_registered_11 : decode cX11_registered 11 = .ok (.aload_n 0, 1) := by decide +kernel
theorem dX11_registered_12 : decode cX11_registered 12 = .ok (.aload_n 0, 1) := by decide +kernel
theorem dX11_registered_13 : decode cX11_registered 13 = .ok (.invokevirtual 174, 3) := by decide +kernel
theorem dX11_registered_16 : decode cX11_registered 16 = .ok (.iload_n 1, 1) := by decide +kernel
theorem dX11_registered_17 : decode cX11_registered 17 = .ok (.iload_n 2, 1) := by decide +kernel
theorem dX11_registered_18 : decode cX11_registered 18 = .ok (.iload_n 3, 1) := by decide +kernel
theorem dX11_registered_19 : decode cX11_registered 19 = .ok (.invokevirtual 364, 3) := by decide +kernel
theorem dX11_registered_22 : decode cX11_registered 22 = .ok (.ireturn, 1) := by decide +kernel
theorem dX11_changedPixels_0 : decode cX11_changedPixels 0 = .ok (.aload_n 0, 1) := by decide +kernel
theorem dX11_changedPixels_1 : decode cX11_changedPixels 1 = .ok (.iload_n 1, 1) := by decide +kernel
theorem dX11_changedPixels_2 : decode cX11_changedPixels 2 = .ok (.invokevirtual 137, 3) := by decide +kernel
theorem dX11_changedPixels_5 : decode cX11_changedPixels 5 = .ok (.aload_n 0, 1) := by decide +kernel
theorem dX11_changedPixels_6 : decode cX11_changedPixels 6 = .ok (.iload_n 2, 1) := by decide +kernel
theorem dX11_changedPixels_7 : decode cX11_changedPixels 7 = .ok (.invokevirtual 137, 3) := by decide +kernel
theorem dX11_changedPixels_10 : decode cX11_changedPixels 10 = .ok (.iload_n 3, 1) := by decide +kernel
theorem dX11_changedPixels_11 : decode cX11_changedPixels 11 = .ok (.iconst 1, 1) := by decide +kernel
theorem dX11_changedPixels_12 : decode cX11_changedPixels 12 = .ok (.bipush 9, 2) := by decide +kernel
theorem dX11_changedPixels_14 : decode cX11_changedPixels 14 = .ok (.invokestatic 127, 3) := by decide +kernel
theorem dX11_changedPixels_17 : decode cX11_changedPixels 17 = .ok (.ifCond .ne 6, 3) := by decide +kernel
theorem dX11_changedPixels_20 : decode cX11_changedPixels 20 = .ok (.bipush (-2), 2) := by decide +kernel
theorem dX11_changedPixels_22 : decode cX11_changedPixels 22 = .ok (.ireturn, 1) := by decide +kernel
theorem dX11_changedPixels_23 : decode cX11_changedPixels 23 = .ok (.aload_n 0, 1) := by decide +kernel
theorem dX11_changedPixels_24 : decode cX11_changedPixels 24 = .ok (.invokevirtual 174, 3) := by decide +kernel
theorem dX11_changedPixels_27 : decode cX11_changedPixels 27 = .ok (.astore 4, 2) := by decide +kernel
theorem dX11_changedPixels_29 : decode cX11_changedPixels 29 = .ok (.aload 4, 2) := by decide +kernel
theorem dX11_changedPixels_31 : decode cX11_changedPixels 31 = .ok (.iload_n 1, 1) := by decide +kernel
theorem dX11_changedPixels_32 : decode cX11_changedPixels 32 = .ok (.invokevirtual 178, 3) := by decide +kernel
theorem dX11_changedPixels_35 : decode cX11_changedPixels 35 = .ok (.ifCond .eq 12, 3) := by decide +kernel
theorem dX11_changedPixels_38 : decode cX11_changedPixels 38 = .ok (.aload 4, 2) := by decide +kernel
theorem dX11_changedPixels_40 : decode cX11_changedPixels 40 = .ok (.iload_n 2, 1) := by decide +kernel
theorem dX11_changedPixels_41 : decode cX11_changedPixels 41 = .ok (.invokevirtual 178, 3) := by decide +kernel
theorem dX11_changedPixels_44 : decode cX11_changedPixels 44 = .ok (.ifCond .ne 5, 3) := by decide +kernel
theorem dX11_changedPixels_47 : decode cX11_changedPixels 47 = .ok (.iconst (-1), 1) := by decide +kernel
theorem dX11_changedPixels_48 : decode cX11_changedPixels 48 = .ok (.ireturn, 1) := by decide +kernel
theorem dX11_changedPixels_49 : decode cX11_changedPixels 49 = .ok (.iconst 0, 1) := by decide +kernel
theorem dX11_changedPixels_50 : decode cX11_changedPixels 50 = .ok (.istore 5, 2) := by decide +kernel
theorem dX11_changedPixels_52 : decode cX11_changedPixels 52 = .ok (.iconst 0, 1) := by decide +kernel
theorem dX11_changedPixels_53 : decode cX11_changedPixels 53 = .ok (.istore 6, 2) := by decide +kernel
theorem dX11_changedPixels_55 : decode cX11_changedPixels 55 = .ok (.iload 6, 2) := by decide +kernel
theorem dX11_changedPixels_57 : decode cX11_changedPixels 57 = .ok (.aload_n 0, 1) := by decide +kernel
theorem dX11_changedPixels_58 : decode cX11_changedPixels 58 = .ok (.getfield 10, 3) := by decide +kernel
theorem dX11_changedPixels_61 : decode cX11_changedPixels 61 = .ok (.getfield 92, 3) := by decide +kernel
theorem dX11_changedPixels_64 : decode cX11_changedPixels 64 = .ok (.if_icmp .ge 83, 3) := by decide +kernel
theorem dX11_changedPixels_67 : decode cX11_changedPixels 67 = .ok (.iconst 0, 1) := by decide +kernel
theorem dX11_changedPixels_68 : decode cX11_changedPixels 68 = .ok (.istore 7, 2) := by decide +kernel
theorem dX11_changedPixels_70 : decode cX11_changedPixels 70 = .ok (.iload 7, 2) := by decide +kernel
theorem dX11_changedPixels_72 : decode cX11_changedPixels 72 = .ok (.aload_n 0, 1) := by decide +kernel
theorem dX11_changedPixels_73 : decode cX11_changedPixels 73 = .ok (.getfield 10, 3) := by decide +kernel
theorem dX11_changedPixels_76 : decode cX11_changedPixels 76 = .ok (.getfield 89, 3) := by decide +kernel
theorem dX11_changedPixels_79 : decode cX11_changedPixels 79 = .ok (.if_icmp .ge 62, 3) := by decide +kernel
theorem dX11_changedPixels_82 : decode cX11_changedPixels 82 = .ok (.aload_n 0, 1) := by decide +kernel
theorem dX11_changedPixels_83 : decode cX11_changedPixels 83 = .ok (.aload 4, 2) := by decide +kernel
theorem dX11_changedPixels_85 : decode cX11_changedPixels 85 = .ok (.iload_n 1, 1) := by decide +kernel
theorem dX11_changedPixels_86 : decode cX11_changedPixels 86 = .ok (.iload 7, 2) := by decide +kernel
theorem dX11_changedPixels_88 : decode cX11_changedPixels 88 = .ok (.iload 6, 2) := by decide +kernel
theorem dX11_changedPixels_90 : decode cX11_changedPixels 90 = .ok (.invokevirtual 364, 3) := by decide +kernel
theorem dX11_changedPixels_93 : decode cX11_changedPixels 93 = .ok (.istore 8, 2) := by decide +kernel
theorem dX11_changedPixels_95 : decode cX11_changedPixels 95 = .ok (.aload_n 0, 1) := by decide +kernel
theorem dX11_changedPixels_96 : decode cX11_changedPixels 96 = .ok (.aload 4, 2) := by decide +kernel
theorem dX11_changedPixels_98 : decode cX11_changedPixels 98 = .ok (.iload_n 2, 1) := by decide +kernel
theorem dX11_changedPixels_99 : decode cX11_changedPixels 99 = .ok (.iload 7, 2) := by decide +kernel
theorem dX11_changedPixels_101 : decode cX11_changedPixels 101 = .ok (.iload 6, 2) := by decide +kernel
theorem dX11_changedPixels_103 : decode cX11_changedPixels 103 = .ok (.invokevirtual 364, 3) := by decide +kernel
theorem dX11_changedPixels_106 : decode cX11_changedPixels 106 = .ok (.istore 9, 2) := by decide +kernel
theorem dX11_changedPixels_108 : decode cX11_changedPixels 108 = .ok (.iload 8, 2) := by decide +kernel
theorem dX11_changedPixels_110 : decode cX11_changedPixels 110 = .ok (.iconst (-1), 1) := by decide +kernel
theorem dX11_changedPixels_111 : decode cX11_changedPixels 111 = .ok (.if_icmp .eq 24, 3) := by decide +kernel
theorem dX11_changedPixels_114 : decode cX11_changedPixels 114 = .ok (.iload 9, 2) := by decide +kernel
theorem dX11_changedPixels_116 : decode cX11_changedPixels 116 = .ok (.iconst (-1), 1) := by decide +kernel
theorem dX11_changedPixels_117 : decode cX11_changedPixels 117 = .ok (.if_icmp .eq 18, 3) := by decide +kernel
theorem dX11_changedPixels_120 : decode cX11_changedPixels 120 = .ok (.iload 8, 2) := by decide +kernel
theorem dX11_changedPixels_122 : decode cX11_changedPixels 122 = .ok (.iload 9, 2) := by decide +kernel
theorem dX11_changedPixels_124 : decode cX11_changedPixels 124 = .ok (.isub, 1) := by decide +kernel
theorem dX11_changedPixels_125 : decode cX11_changedPixels 125 = .ok (.invokestatic 368, 3) := by decide +kernel
theorem dX11_changedPixels_128 : decode cX11_changedPixels 128 = .ok (.iload_n 3, 1) := by decide +kernel
theorem dX11_changedPixels_129 : decode cX11_changedPixels 129 = .ok (.if_icmp .lt 6, 3) := by decide +kernel
theorem dX11_changedPixels_132 : decode cX11_changedPixels 132 = .ok (.iinc 5 1, 3) := by decide +kernel
theorem dX11_changedPixels_135 : decode cX11_changedPixels 135 = .ok (.iinc 7 1, 3) := by decide +kernel
theorem dX11_changedPixels_138 : decode cX11_changedPixels 138 = .ok (.goto (-68), 3) := by decide +kernel
theorem dX11_changedPixels_141 : decode cX11_changedPixels 141 = .ok (.iinc 6 1, 3) := by decide +kernel
theorem dX11_changedPixels_144 : decode cX11_changedPixels 144 = .ok (.goto (-89), 3) := by decide +kernel
theorem dX11_changedPixels_147 : decode cX11_changedPixels 147 = .ok (.iload 5, 2) := by decide +kernel
theorem dX11_changedPixels_149 : decode cX11_changedPixels 149 = .ok (.ireturn, 1) := by decide +kernel
theorem dX11_snowLine_0 : decode cX11_snowLine 0 = .ok (.aload_n 0, 1) := by decide +kernel
theorem dX11_snowLine_1 : decode cX11_snowLine 1 = .ok (.iload_n 1, 1) := by decide +kernel
theorem dX11_snowLine_2 : decode cX11_snowLine 2 = .ok (.invokevirtual 137, 3) := by decide +kernel
theorem dX11_snowLine_5 : decode cX11_snowLine 5 = .ok (.iload_n 2, 1) := by decide +kernel
theorem dX11_snowLine_6 : decode cX11_snowLine 6 = .ok (.iconst 0, 1) := by decide +kernel
theorem dX11_snowLine_7 : decode cX11_snowLine 7 = .ok (.bipush 9, 2) := by decide +kernel
theorem dX11_snowLine_9 : decode cX11_snowLine 9 = .ok (.invokestatic 127, 3) := by decide +kernel
theorem dX11_snowLine_12 : decode cX11_snowLine 12 = .ok (.ifCond .ne 6, 3) := by decide +kernel
theorem dX11_snowLine_15 : decode cX11_snowLine 15 = .ok (.bipush (-2), 2) := by decide +kernel
theorem dX11_snowLine_17 : decode cX11_snowLine 17 = .ok (.ireturn, 1) := by decide +kernel
theorem dX11_snowLine_18 : decode cX11_snowLine 18 = .ok (.iconst 0, 1) := by decide +kernel
theorem dX11_snowLine_19 : decode cX11_snowLine 19 = .ok (.istore_n 3, 1) := by decide +kernel
theorem dX11_snowLine_20 : decode cX11_snowLine 20 = .ok (.iload_n 3, 1) := by decide +kernel
theorem dX11_snowLine_21 : decode cX11_snowLine 21 = .ok (.aload_n 0, 1) := by decide +kernel
theorem dX11_snowLine_22 : decode cX11_snowLine 22 = .ok (.getfield 10, 3) := by decide +kernel
theorem dX11_snowLine_25 : decode cX11_snowLine 25 = .ok (.getfield 92, 3) := by decide +kernel
theorem dX11_snowLine_28 : decode cX11_snowLine 28 = .ok (.if_icmp .ge 67, 3) := by decide +kernel
theorem dX11_snowLine_31 : decode cX11_snowLine 31 = .ok (.iconst 0, 1) := by decide +kernel
theorem dX11_snowLine_32 : decode cX11_snowLine 32 = .ok (.istore 4, 2) := by decide +kernel
theorem dX11_snowLine_34 : decode cX11_snowLine 34 = .ok (.iconst 0, 1) := by decide +kernel
theorem dX11_snowLine_35 : decode cX11_snowLine 35 = .ok (.istore 5, 2) := by decide +kernel
theorem dX11_snowLine_37 : decode cX11_snowLine 37 = .ok (.iload 5, 2) := by decide +kernel
theorem dX11_snowLine_39 : decode cX11_snowLine 39 = .ok (.aload_n 0, 1) := by decide +kernel
theorem dX11_snowLine_40 : decode cX11_snowLine 40 = .ok (.getfield 10, 3) := by decide +kernel
theorem dX11_snowLine_43 : decode cX11_snowLine 43 = .ok (.getfield 89, 3) := by decide +kernel
theorem dX11_snowLine_46 : decode cX11_snowLine 46 = .ok (.if_icmp .ge 27, 3) := by decide +kernel
theorem dX11_snowLine_49 : decode cX11_snowLine 49 = .ok (.aload_n 0, 1) := by decide +kernel
theorem dX11_snowLine_50 : decode cX11_snowLine 50 = .ok (.getfield 10, 3) := by decide +kernel
theorem dX11_snowLine_53 : decode cX11_snowLine 53 = .ok (.iload_n 1, 1) := by decide +kernel
theorem dX11_snowLine_54 : decode cX11_snowLine 54 = .ok (.iload 5, 2) := by decide +kernel
theorem dX11_snowLine_56 : decode cX11_snowLine 56 = .ok (.iload_n 3, 1) := by decide +kernel
theorem dX11_snowLine_57 : decode cX11_snowLine 57 = .ok (.invokevirtual 147, 3) := by decide +kernel
theorem dX11_snowLine_60 : decode cX11_snowLine 60 = .ok (.iload_n 2, 1) := by decide +kernel
theorem dX11_snowLine_61 : decode cX11_snowLine 61 = .ok (.if_icmp .lt 6, 3) := by decide +kernel
theorem dX11_snowLine_64 : decode cX11_snowLine 64 = .ok (.iinc 4 1, 3) := by decide +kernel
theorem dX11_snowLine_67 : decode cX11_snowLine 67 = .ok (.iinc 5 1, 3) := by decide +kernel
theorem dX11_snowLine_70 : decode cX11_snowLine 70 = .ok (.goto (-33), 3) := by decide +kernel
theorem dX11_snowLine_73 : decode cX11_snowLine 73 = .ok (.iconst 2, 1) := by decide +kernel
theorem dX11_snowLine_74 : decode cX11_snowLine 74 = .ok (.iload 4, 2) := by decide +kernel
theorem dX11_snowLine_76 : decode cX11_snowLine 76 = .ok (.imul, 1) := by decide +kernel
theorem dX11_snowLine_77 : decode cX11_snowLine 77 = .ok (.aload_n 0, 1) := by decide +kernel
theorem dX11_snowLine_78 : decode cX11_snowLine 78 = .ok (.getfield 10, 3) := by decide +kernel
theorem dX11_snowLine_81 : decode cX11_snowLine 81 = .ok (.getfield 89, 3) := by decide +kernel
theorem dX11_snowLine_84 : decode cX11_snowLine 84 = .ok (.if_icmp .ge 5, 3) := by decide +kernel
theorem dX11_snowLine_87 : decode cX11_snowLine 87 = .ok (.iload_n 3, 1) := by decide +kernel
theorem dX11_snowLine_88 : decode cX11_snowLine 88 = .ok (.ireturn, 1) := by decide +kernel
theorem dX11_snowLine_89 : decode cX11_snowLine 89 = .ok (.iinc 3 1, 3) := by decide +kernel
theorem dX11_snowLine_92 : decode cX11_snowLine 92 = .ok (.goto (-72), 3) := by decide +kernel
theorem dX11_snowLine_95 : decode cX11_snowLine 95 = .ok (.aload_n 0, 1) := by decide +kernel
theorem dX11_snowLine_96 : decode cX11_snowLine 96 = .ok (.getfield 10, 3) := by decide +kernel
theorem dX11_snowLine_99 : decode cX11_snowLine 99 = .ok (.getfield 92, 3) := by decide +kernel
theorem dX11_snowLine_102 : decode cX11_snowLine 102 = .ok (.ireturn, 1) := by decide +kernel
theorem dX11_strain_0 : decode cX11_strain 0 = .ok (.aload_n 0, 1) := by decide +kernel
theorem dX11_strain_1 : decode cX11_strain 1 = .ok (.iload_n 1, 1) := by decide +kernel
theorem dX11_strain_2 : decode cX11_strain 2 = .ok (.invokevirtual 216, 3) := by decide +kernel
theorem dX11_strain_5 : decode cX11_strain 5 = .ok (.aload_n 0, 1) := by decide +kernel
theorem dX11_strain_6 : decode cX11_strain 6 = .ok (.iload_n 2, 1) := by decide +kernel
theorem dX11_strain_7 : decode cX11_strain 7 = .ok (.invokevirtual 216, 3) := by decide +kernel
theorem dX11_strain_10 : decode cX11_strain 10 = .ok (.aload_n 0, 1) := by decide +kernel
theorem dX11_strain_11 : decode cX11_strain 11 = .ok (.iload_n 1, 1) := by decide +kernel
theorem dX11_strain_12 : decode cX11_strain 12 = .ok (.invokevirtual 219, 3) := by decide +kernel
theorem dX11_strain_15 : decode cX11_strain 15 = .ok (.astore_n 3, 1) := by decide +kernel
theorem dX11_strain_16 : decode cX11_strain 16 = .ok (.aload_n 0, 1) := by decide +kernel
theorem dX11_strain_17 : decode cX11_strain 17 = .ok (.iload_n 2, 1) := by decide +kernel
theorem dX11_strain_18 : decode cX11_strain 18 = .ok (.invokevirtual 219, 3) := by decide +kernel
theorem dX11_strain_21 : decode cX11_strain 21 = .ok (.astore 4, 2) := by decide +kernel
theorem dX11_strain_23 : decode cX11_strain 23 = .ok (.iconst 0, 1) := by decide +kernel
theorem dX11_strain_24 : decode cX11_strain 24 = .ok (.istore 5, 2) := by decide +kernel
theorem dX11_strain_26 : decode cX11_strain 26 = .ok (.iconst 0, 1) := by decide +kernel
theorem dX11_strain_27 : decode cX11_strain 27 = .ok (.istore 6, 2) := by decide +kernel
theorem dX11_strain_29 : decode cX11_strain 29 = .ok (.iconst 0, 1) := by decide +kernel
theorem dX11_strain_30 : decode cX11_strain 30 = .ok (.istore 7, 2) := by decide +kernel
theorem dX11_strain_32 : decode cX11_strain 32 = .ok (.iconst 0, 1) := by decide +kernel
theorem dX11_strain_33 : decode cX11_strain 33 = .ok (.istore 8, 2) := by decide +kernel
theorem dX11_strain_35 : decode cX11_strain 35 = .ok (.iload 8, 2) := by decide +kernel
theorem dX11_strain_37 : decode cX11_strain 37 = .ok (.aload_n 0, 1) := by decide +kernel
theorem dX11_strain_38 : decode cX11_strain 38 = .ok (.getfield 10, 3) := by decide +kernel
theorem dX11_strain_41 : decode cX11_strain 41 = .ok (.getfield 95, 3) := by decide +kernel
theorem dX11_strain_44 : decode cX11_strain 44 = .ok (.if_icmp .ge 55, 3) := by decide +kernel
theorem dX11_strain_47 : decode cX11_strain 47 = .ok (.aload_n 3, 1) := by decide +kernel
theorem dX11_strain_48 : decode cX11_strain 48 = .ok (.iload 8, 2) := by decide +kernel
theorem dX11_strain_50 : decode cX11_strain 50 = .ok (.invokevirtual 371, 3) := by decide +kernel
theorem dX11_strain_53 : decode cX11_strain 53 = .ok (.ifCond .eq 40, 3) := by decide +kernel
theorem dX11_strain_56 : decode cX11_strain 56 = .ok (.aload 4, 2) := by decide +kernel
theorem dX11_strain_58 : decode cX11_strain 58 = .ok (.iload 8, 2) := by decide +kernel
theorem dX11_strain_60 : decode cX11_strain 60 = .ok (.invokevirtual 371, 3) := by decide +kernel
theorem dX11_strain_63 : decode cX11_strain 63 = .ok (.ifCond .eq 30, 3) := by decide +kernel
theorem dX11_strain_66 : decode cX11_strain 66 = .ok (.aload_n 3, 1) := by decide +kernel
theorem dX11_strain_67 : decode cX11_strain 67 = .ok (.aload 4, 2) := by decide +kernel
theorem dX11_strain_69 : decode cX11_strain 69 = .ok (.iload 8, 2) := by decide +kernel
theorem dX11_strain_71 : decode cX11_strain 71 = .ok (.invokevirtual 374, 3) := by decide +kernel
theorem dX11_strain_74 : decode cX11_strain 74 = .ok (.istore 7, 2) := by decide +kernel
theorem dX11_strain_76 : decode cX11_strain 76 = .ok (.iload 5, 2) := by decide +kernel
theorem dX11_strain_78 : decode cX11_strain 78 = .ok (.ifCond .ne 8, 3) := by decide +kernel
theorem dX11_strain_81 : decode cX11_strain 81 = .ok (.iload 7, 2) := by decide +kernel
theorem dX11_strain_83 : decode cX11_strain 83 = .ok (.goto 5, 3) := by decide +kernel
theorem dX11_strain_86 : decode cX11_strain 86 = .ok (.iload 6, 2) := by decide +kernel
theorem dX11_strain_88 : decode cX11_strain 88 = .ok (.istore 6, 2) := by decide +kernel
theorem dX11_strain_90 : decode cX11_strain 90 = .ok (.iinc 5 1, 3) := by decide +kernel
theorem dX11_strain_93 : decode cX11_strain 93 = .ok (.iinc 8 1, 3) := by decide +kernel
theorem dX11_strain_96 : decode cX11_strain 96 = .ok (.goto (-61), 3) := by decide +kernel
theorem dX11_strain_99 : decode cX11_strain 99 = .ok (.iload 5, 2) := by decide +kernel
theorem dX11_strain_101 : decode cX11_strain 101 = .ok (.iconst 2, 1) := by decide +kernel
theorem dX11_strain_102 : decode cX11_strain 102 = .ok (.if_icmp .ge 9, 3) := by decide +kernel
theorem dX11_strain_105 : decode cX11_strain 105 = .ok (.ldc_w 380, 3) := by decide +kernel
theorem dX11_strain_108 : decode cX11_strain 108 = .ok (.goto 8, 3) := by decide +kernel
theorem dX11_strain_111 : decode cX11_strain 111 = .ok (.iload 7, 2) := by decide +kernel
theorem dX11_strain_113 : decode cX11_strain 113 = .ok (.iload 6, 2) := by decide +kernel
theorem dX11_strain_115 : decode cX11_strain 115 = .ok (.isub, 1) := by decide +kernel
theorem dX11_strain_116 : decode cX11_strain 116 = .ok (.ireturn, 1) := by decide +kernel
theorem dX11_direction_0 : decode cX11_direction 0 = .ok (.aload_n 0, 1) := by decide +kernel
theorem dX11_direction_1 : decode cX11_direction 1 = .ok (.iload_n 1, 1) := by decide +kernel
theorem dX11_direction_2 : decode cX11_direction 2 = .ok (.invokevirtual 216, 3) := by decide +kernel
theorem dX11_direction_5 : decode cX11_direction 5 = .ok (.aload_n 0, 1) := by decide +kernel
theorem dX11_direction_6 : decode cX11_direction 6 = .ok (.iload_n 1, 1) := by decide +kernel
theorem dX11_direction_7 : decode cX11_direction 7 = .ok (.invokevirtual 219, 3) := by decide +kernel
theorem dX11_direction_10 : decode cX11_direction 10 = .ok (.astore_n 2, 1) := by decide +kernel
theorem dX11_direction_11 : decode cX11_direction 11 = .ok (.aload_n 2, 1) := by decide +kernel
theorem dX11_direction_12 : decode cX11_direction 12 = .ok (.aload_n 2, 1) := by decide +kernel
theorem dX11_direction_13 : decode cX11_direction 13 = .ok (.getfield 277, 3) := by decide +kernel
theorem dX11_direction_16 : decode cX11_direction 16 = .ok (.invokevirtual 381, 3) := by decide +kernel
theorem dX11_direction_19 : decode cX11_direction 19 = .ok (.istore_n 3, 1) := by decide +kernel
theorem dX11_direction_20 : decode cX11_direction 20 = .ok (.aload_n 2, 1) := by decide +kernel
theorem dX11_direction_21 : decode cX11_direction 21 = .ok (.aload_n 2, 1) := by decide +kernel
theorem dX11_direction_22 : decode cX11_direction 22 = .ok (.getfield 284, 3) := by decide +kernel
theorem dX11_direction_25 : decode cX11_direction 25 = .ok (.invokevirtual 381, 3) := by decide +kernel
theorem dX11_direction_28 : decode cX11_direction 28 = .ok (.istore 4, 2) := by decide +kernel
theorem dX11_direction_30 : decode cX11_direction 30 = .ok (.iload_n 3, 1) := by decide +kernel
theorem dX11_direction_31 : decode cX11_direction 31 = .ok (.ifCond .ne 10, 3) := by decide +kernel
theorem dX11_direction_34 : decode cX11_direction 34 = .ok (.iload 4, 2) := by decide +kernel
theorem dX11_direction_36 : decode cX11_direction 36 = .ok (.ifCond .ne 5, 3) := by decide +kernel
theorem dX11_direction_39 : decode cX11_direction 39 = .ok (.iconst (-1), 1) := by decide +kernel
theorem dX11_direction_40 : decode cX11_direction 40 = .ok (.ireturn, 1) := by decide +kernel
theorem dX11_direction_41 : decode cX11_direction 41 = .ok (.iload_n 3, 1) := by decide +kernel
theorem dX11_direction_42 : decode cX11_direction 42 = .ok (.invokestatic 368, 3) := by decide +kernel
theorem dX11_direction_45 : decode cX11_direction 45 = .ok (.iconst 2, 1) := by decide +kernel
theorem dX11_direction_46 : decode cX11_direction 46 = .ok (.iload 4, 2) := by decide +kernel
theorem dX11_direction_48 : decode cX11_direction 48 = .ok (.invokestatic 368, 3) := by decide +kernel
theorem dX11_direction_51 : decode cX11_direction 51 = .ok (.imul, 1) := by decide +kernel
theorem dX11_direction_52 : decode cX11_direction 52 = .ok (.if_icmp .le 13, 3) := by decide +kernel
theorem dX11_direction_55 : decode cX11_direction 55 = .ok (.iload_n 3, 1) := by decide +kernel
theorem dX11_direction_56 : decode cX11_direction 56 = .ok (.ifCond .le 7, 3) := by decide +kernel
theorem dX11_direction_59 : decode cX11_direction 59 = .ok (.iconst 0, 1) := by decide +kernel
theorem dX11_direction_60 : decode cX11_direction 60 = .ok (.goto 4, 3) := by decide +kernel
theorem dX11_direction_63 : decode cX11_direction 63 = .ok (.iconst 4, 1) := by decide +kernel
theorem dX11_direction_64 : decode cX11_direction 64 = .ok (.ireturn, 1) := by decide +kernel
theorem dX11_direction_65 : decode cX11_direction 65 = .ok (.iload 4, 2) := by decide +kernel
theorem dX11_direction_67 : decode cX11_direction 67 = .ok (.invokestatic 368, 3) := by decide +kernel
theorem dX11_direction_70 : decode cX11_direction 70 = .ok (.iconst 2, 1) := by decide +kernel
theorem dX11_direction_71 : decode cX11_direction 71 = .ok (.iload_n 3, 1) := by decide +kernel
theorem dX11_direction_72 : decode cX11_direction 72 = .ok (.invokestatic 368, 3) := by decide +kernel
theorem dX11_direction_75 : decode cX11_direction 75 = .ok (.imul, 1) := by decide +kernel
theorem dX11_direction_76 : decode cX11_direction 76 = .ok (.if_icmp .le 15, 3) := by decide +kernel
theorem dX11_direction_79 : decode cX11_direction 79 = .ok (.iload 4, 2) := by decide +kernel
theorem dX11_direction_81 : decode cX11_direction 81 = .ok (.ifCond .le 7, 3) := by decide +kernel
theorem dX11_direction_84 : decode cX11_direction 84 = .ok (.iconst 2, 1) := by decide +kernel
theorem dX11_direction_85 : decode cX11_direction 85 = .ok (.goto 5, 3) := by decide +kernel
theorem dX11_direction_88 : decode cX11_direction 88 = .ok (.bipush 6, 2) := by decide +kernel
theorem dX11_direction_90 : decode cX11_direction 90 = .ok (.ireturn, 1) := by decide +kernel
theorem dX11_direction_91 : decode cX11_direction 91 = .ok (.iload 4, 2) := by decide +kernel
theorem dX11_direction_93 : decode cX11_direction 93 = .ok (.ifCond .le 13, 3) := by decide +kernel
theorem dX11_direction_96 : decode cX11_direction 96 = .ok (.iload_n 3, 1) := by decide +kernel
theorem dX11_direction_97 : decode cX11_direction 97 = .ok (.ifCond .le 7, 3) := by decide +kernel
theorem dX11_direction_100 : decode cX11_direction 100 = .ok (.iconst 1, 1) := by decide +kernel
theorem dX11_direction_101 : decode cX11_direction 101 = .ok (.goto 4, 3) := by decide +kernel
theorem dX11_direction_104 : decode cX11_direction 104 = .ok (.iconst 3, 1) := by decide +kernel
theorem dX11_direction_105 : decode cX11_direction 105 = .ok (.ireturn, 1) := by decide +kernel
theorem dX11_direction_106 : decode cX11_direction 106 = .ok (.iload_n 3, 1) := by decide +kernel
theorem dX11_direction_107 : decode cX11_direction 107 = .ok (.ifCond .ge 7, 3) := by decide +kernel
theorem dX11_direction_110 : decode cX11_direction 110 = .ok (.iconst 5, 1) := by decide +kernel
theorem dX11_direction_111 : decode cX11_direction 111 = .ok (.goto 5, 3) := by decide +kernel
theorem dX11_direction_114 : decode cX11_direction 114 = .ok (.bipush 7, 2) := by decide +kernel
theorem dX11_direction_116 : decode cX11_direction 116 = .ok (.ireturn, 1) := by decide +kernel
theorem dX11_meltInSegment_0 : decode cX11_meltInSegment 0 = .ok (.aload_n 0, 1) := by decide +kernel
theorem dX11_meltInSegment_1 : decode cX11_meltInSegment 1 = .ok (.iload_n 1, 1) := by decide +kernel
theorem dX11_meltInSegment_2 : decode cX11_meltInSegment 2 = .ok (.invokevirtual 216, 3) := by decide +kernel
theorem dX11_meltInSegment_5 : decode cX11_meltInSegment 5 = .ok (.aload_n 0, 1) := by decide +kernel
theorem dX11_meltInSegment_6 : decode cX11_meltInSegment 6 = .ok (.iload_n 1, 1) := by decide +kernel
theorem dX11_meltInSegment_7 : decode cX11_meltInSegment 7 = .ok (.invokevirtual 219, 3) := by decide +kernel
theorem dX11_meltInSegment_10 : decode cX11_meltInSegment 10 = .ok (.astore_n 3, 1) := by decide +kernel
theorem dX11_meltInSegment_11 : decode cX11_meltInSegment 11 = .ok (.aload_n 3, 1) := by decide +kernel
theorem dX11_meltInSegment_12 : decode cX11_meltInSegment 12 = .ok (.iload_n 2, 1) := by decide +kernel
theorem dX11_meltInSegment_13 : decode cX11_meltInSegment 13 = .ok (.invokestatic 257, 3) := by decide +kernel
theorem dX11_meltInSegment_16 : decode cX11_meltInSegment 16 = .ok (.aload_n 0, 1) := by decide +kernel
theorem dX11_meltInSegment_17 : decode cX11_meltInSegment 17 = .ok (.aload_n 3, 1) := by decide +kernel
theorem dX11_meltInSegment_18 : decode cX11_meltInSegment 18 = .ok (.iload_n 2, 1) := by decide +kernel
theorem dX11_meltInSegment_19 : decode cX11_meltInSegment 19 = .ok (.invokevirtual 273, 3) := by decide +kernel
theorem dX11_meltInSegment_22 : decode cX11_meltInSegment 22 = .ok (.aload_n 3, 1) := by decide +kernel
theorem dX11_meltInSegment_23 : decode cX11_meltInSegment 23 = .ok (.iload_n 2, 1) := by decide +kernel
theorem dX11_meltInSegment_24 : decode cX11_meltInSegment 24 = .ok (.iconst 1, 1) := by decide +kernel
theorem dX11_meltInSegment_25 : decode cX11_meltInSegment 25 = .ok (.iadd, 1) := by decide +kernel
theorem dX11_meltInSegment_26 : decode cX11_meltInSegment 26 = .ok (.invokevirtual 273, 3) := by decide +kernel
theorem dX11_meltInSegment_29 : decode cX11_meltInSegment 29 = .ok (.invokevirtual 349, 3) := by decide +kernel
theorem dX11_meltInSegment_32 : decode cX11_meltInSegment 32 = .ok (.ireturn, 1) := by decide +kernel
theorem dX11_isSetting_0 : decode cX11_isSetting 0 = .ok (.iload_n 0, 1) := by decide +kernel
theorem dX11_isSetting_1 : decode cX11_isSetting 1 = .ok (.ifCond .lt 13, 3) := by decide +kernel
theorem dX11_isSetting_4 : decode cX11_isSetting 4 = .ok (.iload_n 0, 1) := by decide +kernel
theorem dX11_isSetting_5 : decode cX11_isSetting 5 = .ok (.bipush 8, 2) := by decide +kernel
theorem dX11_isSetting_7 : decode cX11_isSetting 7 = .ok (.if_icmp .ge 7, 3) := by decide +kernel
theorem dX11_isSetting_10 : decode cX11_isSetting 10 = .ok (.iconst 1, 1) := by decide +kernel
theorem dX11_isSetting_11 : decode cX11_isSetting 11 = .ok (.goto 4, 3) := by decide +kernel
theorem dX11_isSetting_14 : decode cX11_isSetting 14 = .ok (.iconst 0, 1) := by decide +kernel
theorem dX11_isSetting_15 : decode cX11_isSetting 15 = .ok (.ireturn, 1) := by decide +kernel
theorem dX11_isBetween_0 : decode cX11_isBetween 0 = .ok (.iload_n 0, 1) := by decide +kernel
theorem dX11_isBetween_1 : decode cX11_isBetween 1 = .ok (.iload_n 1, 1) := by decide +kernel
theorem dX11_isBetween_2 : decode cX11_isBetween 2 = .ok (.if_icmp .lt 12, 3) := by decide +kernel
theorem dX11_isBetween_5 : decode cX11_isBetween 5 = .ok (.iload_n 0, 1) := by decide +kernel
theorem dX11_isBetween_6 : decode cX11_isBetween 6 = .ok (.iload_n 2, 1) := by decide +kernel
theorem dX11_isBetween_7 : decode cX11_isBetween 7 = .ok (.if_icmp .gt 7, 3) := by decide +kernel
theorem dX11_isBetween_10 : decode cX11_isBetween 10 = .ok (.iconst 1, 1) := by decide +kernel
theorem dX11_isBetween_11 : decode cX11_isBetween 11 = .ok (.goto 4, 3) := by decide +kernel
theorem dX11_isBetween_14 : decode cX11_isBetween 14 = .ok (.iconst 0, 1) := by decide +kernel
theorem dX11_isBetween_15 : decode cX11_isBetween 15 = .ok (.ireturn, 1) := by decide +kernel
theorem dX11_quotient_0 : decode cX11_quotient 0 = .ok (.iload_n 1, 1) := by decide +kernel
theorem dX11_quotient_1 : decode cX11_quotient 1 = .ok (.ifCond .le 9, 3) := by decide +kernel
theorem dX11_quotient_4 : decode cX11_quotient 4 = .ok (.iload_n 0, 1) := by decide +kernel
theorem dX11_quotient_5 : decode cX11_quotient 5 = .ok (.iload_n 1, 1) := by decide +kernel
theorem dX11_quotient_6 : decode cX11_quotient 6 = .ok (.idiv, 1) := by decide +kernel
theorem dX11_quotient_7 : decode cX11_quotient 7 = .ok (.goto 4, 3) := by decide +kernel
theorem dX11_quotient_10 : decode cX11_quotient 10 = .ok (.iconst 0, 1) := by decide +kernel
theorem dX11_quotient_11 : decode cX11_quotient 11 = .ok (.ireturn, 1) := by decide +kernel
theorem dX11_squareRoot_0 : decode cX11_squareRoot 0 = .ok (.lconst 0, 1) := by decide +kernel
theorem dX11_squareRoot_1 : decode cX11_squareRoot 1 = .ok (.lstore_n 2, 1) := by decide +kernel
theorem dX11_squareRoot_2 : decode cX11_squareRoot 2 = .ok (.ldc2_w 385, 3) := by decide +kernel
theorem dX11_squareRoot_5 : decode cX11_squareRoot 5 = .ok (.lstore 4, 2) := by decide +kernel
theorem dX11_squareRoot_7 : decode cX11_squareRoot 7 = .ok (.lload 4, 2) := by decide +kernel
theorem dX11_squareRoot_9 : decode cX11_squareRoot 9 = .ok (.lconst 0, 1) := by decide +kernel
theorem dX11_squareRoot_10 : decode cX11_squareRoot 10 = .ok (.lcmp, 1) := by decide +kernel
theorem dX11_squareRoot_11 : decode cX11_squareRoot 11 = .ok (.ifCond .le 31, 3) := by decide +kernel
theorem dX11_squareRoot_14 : decode cX11_squareRoot 14 = .ok (.lload_n 2, 1) := by decide +kernel
theorem dX11_squareRoot_15 : decode cX11_squareRoot 15 = .ok (.lload 4, 2) := by decide +kernel
theorem dX11_squareRoot_17 : decode cX11_squareRoot 17 = .ok (.ladd, 1) := by decide +kernel
theorem dX11_squareRoot_18 : decode cX11_squareRoot 18 = .ok (.lstore 6, 2) := by decide +kernel
theorem dX11_squareRoot_20 : decode cX11_squareRoot 20 = .ok (.lload 6, 2) := by decide +kernel
theorem dX11_squareRoot_22 : decode cX11_squareRoot 22 = .ok (.lload 6, 2) := by decide +kernel
theorem dX11_squareRoot_24 : decode cX11_squareRoot 24 = .ok (.lmul, 1) := by decide +kernel
theorem dX11_squareRoot_25 : decode cX11_squareRoot 25 = .ok (.lload_n 0, 1) := by decide +kernel
theorem dX11_squareRoot_26 : decode cX11_squareRoot 26 = .ok (.lcmp, 1) := by decide +kernel
theorem dX11_squareRoot_27 : decode cX11_squareRoot 27 = .ok (.ifCond .gt 6, 3) := by decide +kernel
theorem dX11_squareRoot_30 : decode cX11_squareRoot 30 = .ok (.lload 6, 2) := by decide +kernel
theorem dX11_squareRoot_32 : decode cX11_squareRoot 32 = .ok (.lstore_n 2, 1) := by decide +kernel
theorem dX11_squareRoot_33 : decode cX11_squareRoot 33 = .ok (.lload 4, 2) := by decide +kernel
theorem dX11_squareRoot_35 : decode cX11_squareRoot 35 = .ok (.iconst 1, 1) := by decide +kernel
theorem dX11_squareRoot_36 : decode cX11_squareRoot 36 = .ok (.lshr, 1) := by decide +kernel
theorem dX11_squareRoot_37 : decode cX11_squareRoot 37 = .ok (.lstore 4, 2) := by decide +kernel
theorem dX11_squareRoot_39 : decode cX11_squareRoot 39 = .ok (.goto (-32), 3) := by decide +kernel
theorem dX11_squareRoot_42 : decode cX11_squareRoot 42 = .ok (.lload_n 2, 1) := by decide +kernel
theorem dX11_squareRoot_43 : decode cX11_squareRoot 43 = .ok (.l2i, 1) := by decide +kernel
theorem dX11_squareRoot_44 : decode cX11_squareRoot 44 = .ok (.ireturn, 1) := by decide +kernel
theorem dX11_requireFrame_0 : decode cX11_requireFrame 0 = .ok (.aload_n 0, 1) := by decide +kernel
theorem dX11_requireFrame_1 : decode cX11_requireFrame 1 = .ok (.getfield 10, 3) := by decide +kernel
theorem dX11_requireFrame_4 : decode cX11_requireFrame 4 = .ok (.iload_n 1, 1) := by decide +kernel
theorem dX11_requireFrame_5 : decode cX11_requireFrame 5 = .ok (.invokevirtual 151, 3) := by decide +kernel
theorem dX11_requireFrame_8 : decode cX11_requireFrame 8 = .ok (.ifCond .ne 14, 3) := by decide +kernel
theorem dX11_requireFrame_11 : decode cX11_requireFrame 11 = .ok (.new 387, 3) := by decide +kernel
theorem dX11_requireFrame_14 : decode cX11_requireFrame 14 = .ok (.dup, 1) := by decide +kernel
theorem dX11_requireFrame_15 : decode cX11_requireFrame 15 = .ok (.ldc_w 389, 3) := by decide +kernel
theorem dX11_requireFrame_18 : decode cX11_requireFrame 18 = .ok (.invokespecial 391, 3) := by decide +kernel
theorem dX11_requireFrame_21 : decode cX11_requireFrame 21 = .ok (.athrow, 1) := by decide +kernel
theorem dX11_requireFrame_22 : decode cX11_requireFrame 22 = .ok (.return_, 1) := by decide +kernel
theorem dX11_requirePixel_0 : decode cX11_requirePixel 0 = .ok (.aload_n 0, 1) := by decide +kernel
theorem dX11_requirePixel_1 : decode cX11_requirePixel 1 = .ok (.getfield 10, 3) := by decide +kernel
theorem dX11_requirePixel_4 : decode cX11_requirePixel 4 = .ok (.iload_n 1, 1) := by decide +kernel
theorem dX11_requirePixel_5 : decode cX11_requirePixel 5 = .ok (.iload_n 2, 1) := by decide +kernel
theorem dX11_requirePixel_6 : decode cX11_requirePixel 6 = .ok (.invokevirtual 154, 3) := by decide +kernel
theorem dX11_requirePixel_9 : decode cX11_requirePixel 9 = .ok (.ifCond .ne 14, 3) := by decide +kernel
theorem dX11_requirePixel_12 : decode cX11_requirePixel 12 = .ok (.new 387, 3) := by decide +kernel
theorem dX11_requirePixel_15 : decode cX11_requirePixel 15 = .ok (.dup, 1) := by decide +kernel
theorem dX11_requirePixel_16 : decode cX11_requirePixel 16 = .ok (.ldc_w 394, 3) := by decide +kernel
theorem dX11_requirePixel_19 : decode cX11_requirePixel 19 = .ok (.invokespecial 391, 3) := by decide +kernel
theorem dX11_requirePixel_22 : decode cX11_requirePixel 22 = .ok (.athrow, 1) := by decide +kernel
theorem dX11_requirePixel_23 : decode cX11_requirePixel 23 = .ok (.return_, 1) := by decide +kernel
theorem dX11_requireOriented_0 : decode cX11_requireOriented 0 = .ok (.aload_n 0, 1) := by decide +kernel
theorem dX11_requireOriented_1 : decode cX11_requireOriented 1 = .ok (.iload_n 1, 1) := by decide +kernel
theorem dX11_requireOriented_2 : decode cX11_requireOriented 2 = .ok (.invokevirtual 137, 3) := by decide +kernel
theorem dX11_requireOriented_5 : decode cX11_requireOriented 5 = .ok (.aload_n 0, 1) := by decide +kernel
theorem dX11_requireOriented_6 : decode cX11_requireOriented 6 = .ok (.invokevirtual 174, 3) := by decide +kernel
theorem dX11_requireOriented_9 : decode cX11_requireOriented 9 = .ok (.iload_n 1, 1) := by decide +kernel
theorem dX11_requireOriented_10 : decode cX11_requireOriented 10 = .ok (.invokevirtual 178, 3) := by decide +kernel
theorem dX11_requireOriented_13 : decode cX11_requireOriented 13 = .ok (.ifCond .ne 14, 3) := by decide +kernel
theorem dX11_requireOriented_16 : decode cX11_requireOriented 16 = .ok (.new 396, 3) := by decide +kernel
theorem dX11_requireOriented_19 : decode cX11_requireOriented 19 = .ok (.dup, 1) := by decide +kernel
theorem dX11_requireOriented_20 : decode cX11_requireOriented 20 = .ok (.ldc_w 398, 3) := by decide +kernel
theorem dX11_requireOriented_23 : decode cX11_requireOriented 23 = .ok (.invokespecial 400, 3) := by decide +kernel
theorem dX11_requireOriented_26 : decode cX11_requireOriented 26 = .ok (.athrow, 1) := by decide +kernel
theorem dX11_requireOriented_27 : decode cX11_requireOriented 27 = .ok (.return_, 1) := by decide +kernel
theorem dX11_requireFeature_0 : decode cX11_requireFeature 0 = .ok (.aload_n 0, 1) := by decide +kernel
theorem dX11_requireFeature_1 : decode cX11_requireFeature 1 = .ok (.getfield 10, 3) := by decide +kernel
theorem dX11_requireFeature_4 : decode cX11_requireFeature 4 = .ok (.getfield 107, 3) := by decide +kernel
theorem dX11_requireFeature_7 : decode cX11_requireFeature 7 = .ok (.iload_n 1, 1) := by decide +kernel
theorem dX11_requireFeature_8 : decode cX11_requireFeature 8 = .ok (.invokevirtual 287, 3) := by decide +kernel
theorem dX11_requireFeature_11 : decode cX11_requireFeature 11 = .ok (.ifCond .ne 14, 3) := by decide +kernel
theorem dX11_requireFeature_14 : decode cX11_requireFeature 14 = .ok (.new 387, 3) := by decide +kernel
theorem dX11_requireFeature_17 : decode cX11_requireFeature 17 = .ok (.dup, 1) := by decide +kernel
theorem dX11_requireFeature_18 : decode cX11_requireFeature 18 = .ok (.ldc_w 401, 3) := by decide +kernel
theorem dX11_requireFeature_21 : decode cX11_requireFeature 21 = .ok (.invokespecial 391, 3) := by decide +kernel
theorem dX11_requireFeature_24 : decode cX11_requireFeature 24 = .ok (.athrow, 1) := by decide +kernel
theorem dX11_requireFeature_25 : decode cX11_requireFeature 25 = .ok (.return_, 1) := by decide +kernel
theorem dX11_requireSegment_0 : decode cX11_requireSegment 0 = .ok (.aload_n 0, 1) := by decide +kernel
theorem dX11_requireSegment_1 : decode cX11_requireSegment 1 = .ok (.iload_n 1, 1) := by decide +kernel
theorem dX11_requireSegment_2 : decode cX11_requireSegment 2 = .ok (.invokevirtual 403, 3) := by decide +kernel
theorem dX11_requireSegment_5 : decode cX11_requireSegment 5 = .ok (.ifCond .ne 14, 3) := by decide +kernel
theorem dX11_requireSegment_8 : decode cX11_requireSegment 8 = .ok (.new 387, 3) := by decide +kernel
theorem dX11_requireSegment_11 : decode cX11_requireSegment 11 = .ok (.dup, 1) := by decide +kernel
theorem dX11_requireSegment_12 : decode cX11_requireSegment 12 = .ok (.ldc_w 406, 3) := by decide +kernel
theorem dX11_requireSegment_15 : decode cX11_requireSegment 15 = .ok (.invokespecial 391, 3) := by decide +kernel
theorem dX11_requireSegment_18 : decode cX11_requireSegment 18 = .ok (.athrow, 1) := by decide +kernel
theorem dX11_requireSegment_19 : decode cX11_requireSegment 19 = .ok (.return_, 1) := by decide +kernel
theorem dX11_requireStake_0 : decode cX11_requireStake 0 = .ok (.aload_n 0, 1) := by decide +kernel
theorem dX11_requireStake_1 : decode cX11_requireStake 1 = .ok (.getfield 10, 3) := by decide +kernel
theorem dX11_requireStake_4 : decode cX11_requireStake 4 = .ok (.iload_n 1, 1) := by decide +kernel
theorem dX11_requireStake_5 : decode cX11_requireStake 5 = .ok (.invokevirtual 328, 3) := by decide +kernel
theorem dX11_requireStake_8 : decode cX11_requireStake 8 = .ok (.ifCond .ne 14, 3) := by decide +kernel
theorem dX11_requireStake_11 : decode cX11_requireStake 11 = .ok (.new 387, 3) := by decide +kernel
theorem dX11_requireStake_14 : decode cX11_requireStake 14 = .ok (.dup, 1) := by decide +kernel
theorem dX11_requireStake_15 : decode cX11_requireStake 15 = .ok (.ldc_w 408, 3) := by decide +kernel
theorem dX11_requireStake_18 : decode cX11_requireStake 18 = .ok (.invokespecial 391, 3) := by decide +kernel
theorem dX11_requireStake_21 : decode cX11_requireStake 21 = .ok (.athrow, 1) := by decide +kernel
theorem dX11_requireStake_22 : decode cX11_requireStake 22 = .ok (.return_, 1) := by decide +kernel
theorem dX11_requireReading_0 : decode cX11_requireReading 0 = .ok (.aload_n 0, 1) := by decide +kernel
theorem dX11_requireReading_1 : decode cX11_requireReading 1 = .ok (.iload_n 1, 1) := by decide +kernel
theorem dX11_requireReading_2 : decode cX11_requireReading 2 = .ok (.invokevirtual 309, 3) := by decide +kernel
theorem dX11_requireReading_5 : decode cX11_requireReading 5 = .ok (.iload_n 2, 1) := by decide +kernel
theorem dX11_requireReading_6 : decode cX11_requireReading 6 = .ok (.ifCond .lt 19, 3) := by decide +kernel
theorem dX11_requireReading_9 : decode cX11_requireReading 9 = .ok (.iload_n 2, 1) := by decide +kernel
theorem dX11_requireReading_10 : decode cX11_requireReading 10 = .ok (.aload_n 0, 1) := by decide +kernel
theorem dX11_requireReading_11 : decode cX11_requireReading 11 = .ok (.getfield 10, 3) := by decide +kernel
theorem dX11_requireReading_14 : decode cX11_requireReading 14 = .ok (.getfield 312, 3) := by decide +kernel
theorem dX11_requireReading_17 : decode cX11_requireReading 17 = .ok (.iload_n 1, 1) := by decide +kernel
theorem dX11_requireReading_18 : decode cX11_requireReading 18 = .ok (.aaload, 1) := by decide +kernel
theorem dX11_requireReading_19 : decode cX11_requireReading 19 = .ok (.getfield 316, 3) := by decide +kernel
theorem dX11_requireReading_22 : decode cX11_requireReading 22 = .ok (.if_icmp .lt 14, 3) := by decide +kernel
theorem dX11_requireReading_25 : decode cX11_requireReading 25 = .ok (.new 387, 3) := by decide +kernel
theorem dX11_requireReading_28 : decode cX11_requireReading 28 = .ok (.dup, 1) := by decide +kernel
theorem dX11_requireReading_29 : decode cX11_requireReading 29 = .ok (.ldc_w 410, 3) := by decide +kernel
theorem dX11_requireReading_32 : decode cX11_requireReading 32 = .ok (.invokespecial 391, 3) := by decide +kernel
theorem dX11_requireReading_35 : decode cX11_requireReading 35 = .ok (.athrow, 1) := by decide +kernel
theorem dX11_requireReading_36 : decode cX11_requireReading 36 = .ok (.return_, 1) := by decide +kernel
theorem dX11_record_0 : decode cX11_record 0 = .ok (.aload_n 0, 1) := by decide +kernel
theorem dX11_record_1 : decode cX11_record 1 = .ok (.getfield 26, 3) := by decide +kernel
theorem dX11_record_4 : decode cX11_record 4 = .ok (.iload_n 1, 1) := by decide +kernel
theorem dX11_record_5 : decode cX11_record 5 = .ok (.iload_n 2, 1) := by decide +kernel
theorem dX11_record_6 : decode cX11_record 6 = .ok (.iload_n 3, 1) := by decide +kernel
theorem dX11_record_7 : decode cX11_record 7 = .ok (.iload 4, 2) := by decide +kernel
theorem dX11_record_9 : decode cX11_record 9 = .ok (.iload 5, 2) := by decide +kernel
theorem dX11_record_11 : decode cX11_record 11 = .ok (.invokevirtual 412, 3) := by decide +kernel
theorem dX11_record_14 : decode cX11_record 14 = .ok (.aload_n 0, 1) := by decide +kernel
theorem dX11_record_15 : decode cX11_record 15 = .ok (.dup, 1) := by decide +kernel
theorem dX11_record_16 : decode cX11_record 16 = .ok (.getfield 59, 3) := by decide +kernel
theorem dX11_record_19 : decode cX11_record 19 = .ok (.iconst 1, 1) := by decide +kernel
theorem dX11_record_20 : decode cX11_record 20 = .ok (.iadd, 1) := by decide +kernel
theorem dX11_record_21 : decode cX11_record 21 = .ok (.putfield 59, 3) := by decide +kernel
theorem dX11_record_24 : decode cX11_record 24 = .ok (.return_, 1) := by decide +kernel
theorem dX11_currentOrientation_0 : decode cX11_currentOrientation 0 = .ok (.aload_n 0, 1) := by decide +kernel
theorem dX11_currentOrientation_1 : decode cX11_currentOrientation 1 = .ok (.getfield 33, 3) := by decide +kernel
theorem dX11_currentOrientation_4 : decode cX11_currentOrientation 4 = .ok (.getfield 415, 3) := by decide +kernel
theorem dX11_currentOrientation_7 : decode cX11_currentOrientation 7 = .ok (.aload_n 0, 1) := by decide +kernel
theorem dX11_currentOrientation_8 : decode cX11_currentOrientation 8 = .ok (.getfield 59, 3) := by decide +kernel
theorem dX11_currentOrientation_11 : decode cX11_currentOrientation 11 = .ok (.if_icmp .eq 71, 3) := by decide +kernel
theorem dX11_currentOrientation_14 : decode cX11_currentOrientation 14 = .ok (.aload_n 0, 1) := by decide +kernel
theorem dX11_currentOrientation_15 : decode cX11_currentOrientation 15 = .ok (.getfield 33, 3) := by decide +kernel
theorem dX11_currentOrientation_18 : decode cX11_currentOrientation 18 = .ok (.aload_n 0, 1) := by decide +kernel
theorem dX11_currentOrientation_19 : decode cX11_currentOrientation 19 = .ok (.getfield 10, 3) := by decide +kernel
theorem dX11_currentOrientation_22 : decode cX11_currentOrientation 22 = .ok (.iconst 0, 1) := by decide +kernel
theorem dX11_currentOrientation_23 : decode cX11_currentOrientation 23 = .ok (.invokevirtual 171, 3) := by decide +kernel
theorem dX11_currentOrientation_26 : decode cX11_currentOrientation 26 = .ok (.invokevirtual 416, 3) := by decide +kernel
theorem dX11_currentOrientation_29 : decode cX11_currentOrientation 29 = .ok (.iconst 0, 1) := by decide +kernel
theorem dX11_currentOrientation_30 : decode cX11_currentOrientation 30 = .ok (.istore_n 1, 1) := by decide +kernel
theorem dX11_currentOrientation_31 : decode cX11_currentOrientation 31 = .ok (.iload_n 1, 1) := by decide +kernel
theorem dX11_currentOrientation_32 : decode cX11_currentOrientation 32 = .ok (.aload_n 0, 1) := by decide +kernel
theorem dX11_currentOrientation_33 : decode cX11_currentOrientation 33 = .ok (.getfield 10, 3) := by decide +kernel
theorem dX11_currentOrientation_36 : decode cX11_currentOrientation 36 = .ok (.getfield 95, 3) := by decide +kernel
theorem dX11_currentOrientation_39 : decode cX11_currentOrientation 39 = .ok (.if_icmp .ge 32, 3) := by decide +kernel
theorem dX11_currentOrientation_42 : decode cX11_currentOrientation 42 = .ok (.aload_n 0, 1) := by decide +kernel
theorem dX11_currentOrientation_43 : decode cX11_currentOrientation 43 = .ok (.getfield 10, 3) := by decide +kernel
theorem dX11_currentOrientation_46 : decode cX11_currentOrientation 46 = .ok (.iload_n 1, 1) := by decide +kernel
theorem dX11_currentOrientation_47 : decode cX11_currentOrientation 47 = .ok (.invokevirtual 168, 3) := by decide +kernel
theorem dX11_currentOrientation_50 : decode cX11_currentOrientation 50 = .ok (.ifCond .eq 15, 3) := by decide +kernel
theorem dX11_currentOrientation_53 : decode cX11_currentOrientation 53 = .ok (.aload_n 0, 1) := by decide +kernel
theorem dX11_currentOrientation_54 : decode cX11_currentOrientation 54 = .ok (.getfield 33, 3) := by decide +kernel
theorem dX11_currentOrientation_57 : decode cX11_currentOrientation 57 = .ok (.aload_n 0, 1) := by decide +kernel
theorem dX11_currentOrientation_58 : decode cX11_currentOrientation 58 = .ok (.getfield 10, 3) := by decide +kernel
theorem dX11_currentOrientation_61 : decode cX11_currentOrientation 61 = .ok (.iload_n 1, 1) := by decide +kernel
theorem dX11_currentOrientation_62 : decode cX11_currentOrientation 62 = .ok (.invokevirtual 419, 3) := by decide +kernel
theorem dX11_currentOrientation_65 : decode cX11_currentOrientation 65 = .ok (.iinc 1 1, 3) := by decide +kernel
theorem dX11_currentOrientation_68 : decode cX11_currentOrientation 68 = .ok (.goto (-37), 3) := by decide +kernel
theorem dX11_currentOrientation_71 : decode cX11_currentOrientation 71 = .ok (.aload_n 0, 1) := by decide +kernel
theorem dX11_currentOrientation_72 : decode cX11_currentOrientation 72 = .ok (.getfield 33, 3) := by decide +kernel
theorem dX11_currentOrientation_75 : decode cX11_currentOrientation 75 = .ok (.aload_n 0, 1) := by decide +kernel
theorem dX11_currentOrientation_76 : decode cX11_currentOrientation 76 = .ok (.getfield 59, 3) := by decide +kernel
theorem dX11_currentOrientation_79 : decode cX11_currentOrientation 79 = .ok (.putfield 415, 3) := by decide +kernel
theorem dX11_currentOrientation_82 : decode cX11_currentOrientation 82 = .ok (.aload_n 0, 1) := by decide +kernel
theorem dX11_currentOrientation_83 : decode cX11_currentOrientation 83 = .ok (.getfield 33, 3) := by decide +kernel
theorem dX11_currentOrientation_86 : decode cX11_currentOrientation 86 = .ok (.areturn, 1) := by decide +kernel
theorem dX11_trackOf_0 : decode cX11_trackOf 0 = .ok (.aload_n 0, 1) := by decide +kernel
theorem dX11_trackOf_1 : decode cX11_trackOf 1 = .ok (.getfield 46, 3) := by decide +kernel
theorem dX11_trackOf_4 : decode cX11_trackOf 4 = .ok (.iload_n 1, 1) := by decide +kernel
theorem dX11_trackOf_5 : decode cX11_trackOf 5 = .ok (.aaload, 1) := by decide +kernel
theorem dX11_trackOf_6 : decode cX11_trackOf 6 = .ok (.astore_n 2, 1) := by decide +kernel
theorem dX11_trackOf_7 : decode cX11_trackOf 7 = .ok (.aload_n 2, 1) := by decide +kernel
theorem dX11_trackOf_8 : decode cX11_trackOf 8 = .ok (.getfield 423, 3) := by decide +kernel
theorem dX11_trackOf_11 : decode cX11_trackOf 11 = .ok (.aload_n 0, 1) := by decide +kernel
theorem dX11_trackOf_12 : decode cX11_trackOf 12 = .ok (.getfield 59, 3) := by decide +kernel
theorem dX11_trackOf_15 : decode cX11_trackOf 15 = .ok (.if_icmp .eq 37, 3) := by decide +kernel
theorem dX11_trackOf_18 : decode cX11_trackOf 18 = .ok (.aload_n 2, 1) := by decide +kernel
theorem dX11_trackOf_19 : decode cX11_trackOf 19 = .ok (.aload_n 0, 1) := by decide +kernel
theorem dX11_trackOf_20 : decode cX11_trackOf 20 = .ok (.getfield 10, 3) := by decide +kernel
theorem dX11_trackOf_23 : decode cX11_trackOf 23 = .ok (.aload_n 0, 1) := by decide +kernel
theorem dX11_trackOf_24 : decode cX11_trackOf 24 = .ok (.invokevirtual 174, 3) := by decide +kernel
theorem dX11_trackOf_27 : decode cX11_trackOf 27 = .ok (.aload_n 0, 1) := by decide +kernel
theorem dX11_trackOf_28 : decode cX11_trackOf 28 = .ok (.getfield 40, 3) := by decide +kernel
theorem dX11_trackOf_31 : decode cX11_trackOf 31 = .ok (.iload_n 1, 1) := by decide +kernel
theorem dX11_trackOf_32 : decode cX11_trackOf 32 = .ok (.aload_n 0, 1) := by decide +kernel
theorem dX11_trackOf_33 : decode cX11_trackOf 33 = .ok (.getfield 10, 3) := by decide +kernel
theorem dX11_trackOf_36 : decode cX11_trackOf 36 = .ok (.getfield 117, 3) := by decide +kernel
theorem dX11_trackOf_39 : decode cX11_trackOf 39 = .ok (.iconst 4, 1) := by decide +kernel
theorem dX11_trackOf_40 : decode cX11_trackOf 40 = .ok (.iaload, 1) := by decide +kernel
theorem dX11_trackOf_41 : decode cX11_trackOf 41 = .ok (.invokevirtual 238, 3) := by decide +kernel
theorem dX11_trackOf_44 : decode cX11_trackOf 44 = .ok (.aload_n 2, 1) := by decide +kernel
theorem dX11_trackOf_45 : decode cX11_trackOf 45 = .ok (.aload_n 0, 1) := by decide +kernel
theorem dX11_trackOf_46 : decode cX11_trackOf 46 = .ok (.getfield 59, 3) := by decide +kernel
theorem dX11_trackOf_49 : decode cX11_trackOf 49 = .ok (.putfield 423, 3) := by decide +kernel
theorem dX11_trackOf_52 : decode cX11_trackOf 52 = .ok (.aload_n 2, 1) := by decide +kernel
theorem dX11_trackOf_53 : decode cX11_trackOf 53 = .ok (.areturn, 1) := by decide +kernel
theorem dX11_matchOf_0 : decode cX11_matchOf 0 = .ok (.aload_n 0, 1) := by decide +kernel
theorem dX11_matchOf_1 : decode cX11_matchOf 1 = .ok (.iload_n 1, 1) := by decide +kernel
theorem dX11_matchOf_2 : decode cX11_matchOf 2 = .ok (.invokevirtual 137, 3) := by decide +kernel
theorem dX11_matchOf_5 : decode cX11_matchOf 5 = .ok (.aload_n 0, 1) := by decide +kernel
theorem dX11_matchOf_6 : decode cX11_matchOf 6 = .ok (.iload 4, 2) := by decide +kernel
theorem dX11_matchOf_8 : decode cX11_matchOf 8 = .ok (.invokevirtual 137, 3) := by decide +kernel
theorem dX11_matchOf_11 : decode cX11_matchOf 11 = .ok (.aload_n 0, 1) := by decide +kernel
theorem dX11_matchOf_12 : decode cX11_matchOf 12 = .ok (.iload_n 2, 1) := by decide +kernel
theorem dX11_matchOf_13 : decode cX11_matchOf 13 = .ok (.iload_n 3, 1) := by decide +kernel
theorem dX11_matchOf_14 : decode cX11_matchOf 14 = .ok (.invokevirtual 143, 3) := by decide +kernel
theorem dX11_matchOf_17 : decode cX11_matchOf 17 = .ok (.aload_n 0, 1) := by decide +kernel
theorem dX11_matchOf_18 : decode cX11_matchOf 18 = .ok (.getfield 40, 3) := by decide +kernel
theorem dX11_matchOf_21 : decode cX11_matchOf 21 = .ok (.aload_n 0, 1) := by decide +kernel
theorem dX11_matchOf_22 : decode cX11_matchOf 22 = .ok (.getfield 10, 3) := by decide +kernel
theorem dX11_matchOf_25 : decode cX11_matchOf 25 = .ok (.aload_n 0, 1) := by decide +kernel
theorem dX11_matchOf_26 : decode cX11_matchOf 26 = .ok (.invokevirtual 174, 3) := by decide +kernel
theorem dX11_matchOf_29 : decode cX11_matchOf 29 = .ok (.iload_n 1, 1) := by decide +kernel
theorem dX11_matchOf_30 : decode cX11_matchOf 30 = .ok (.iload_n 2, 1) := by decide +kernel
theorem dX11_matchOf_31 : decode cX11_matchOf 31 = .ok (.iload_n 3, 1) := by decide +kernel
theorem dX11_matchOf_32 : decode cX11_matchOf 32 = .ok (.iload 4, 2) := by decide +kernel
theorem dX11_matchOf_34 : decode cX11_matchOf 34 = .ok (.invokevirtual 424, 3) := by decide +kernel
theorem dX11_matchOf_37 : decode cX11_matchOf 37 = .ok (.aload_n 0, 1) := by decide +kernel
theorem dX11_matchOf_38 : decode cX11_matchOf 38 = .ok (.getfield 40, 3) := by decide +kernel
theorem dX11_matchOf_41 : decode cX11_matchOf 41 = .ok (.areturn, 1) := by decide +kernel
theorem dX11_errorOfLoop_0 : decode cX11_errorOfLoop 0 = .ok (.aload_n 0, 1) := by decide +kernel
theorem dX11_errorOfLoop_1 : decode cX11_errorOfLoop 1 = .ok (.invokevirtual 174, 3) := by decide +kernel
theorem dX11_errorOfLoop_4 : decode cX11_errorOfLoop 4 = .ok (.astore 4, 2) := by decide +kernel
theorem dX11_errorOfLoop_6 : decode cX11_errorOfLoop 6 = .ok (.aload 4, 2) := by decide +kernel
theorem dX11_errorOfLoop_8 : decode cX11_errorOfLoop 8 = .ok (.getfield 235, 3) := by decide +kernel
theorem dX11_errorOfLoop_11 : decode cX11_errorOfLoop 11 = .ok (.istore 5, 2) := by decide +kernel
theorem dX11_errorOfLoop_13 : decode cX11_errorOfLoop 13 = .ok (.aload_n 0, 1) := by decide +kernel
theorem dX11_errorOfLoop_14 : decode cX11_errorOfLoop 14 = .ok (.getfield 10, 3) := by decide +kernel
theorem dX11_errorOfLoop_17 : decode cX11_errorOfLoop 17 = .ok (.getfield 107, 3) := by decide +kernel
theorem dX11_errorOfLoop_20 : decode cX11_errorOfLoop 20 = .ok (.getfield 290, 3) := by decide +kernel
theorem dX11_errorOfLoop_23 : decode cX11_errorOfLoop 23 = .ok (.iload_n 1, 1) := by decide +kernel
theorem dX11_errorOfLoop_24 : decode cX11_errorOfLoop 24 = .ok (.iaload, 1) := by decide +kernel
theorem dX11_errorOfLoop_25 : decode cX11_errorOfLoop 25 = .ok (.istore 6, 2) := by decide +kernel
theorem dX11_errorOfLoop_27 : decode cX11_errorOfLoop 27 = .ok (.aload_n 0, 1) := by decide +kernel
theorem dX11_errorOfLoop_28 : decode cX11_errorOfLoop 28 = .ok (.getfield 10, 3) := by decide +kernel
theorem dX11_errorOfLoop_31 : decode cX11_errorOfLoop 31 = .ok (.getfield 107, 3) := by decide +kernel
theorem dX11_errorOfLoop_34 : decode cX11_errorOfLoop 34 = .ok (.getfield 292, 3) := by decide +kernel
theorem dX11_errorOfLoop_37 : decode cX11_errorOfLoop 37 = .ok (.iload_n 1, 1) := by decide +kernel
theorem dX11_errorOfLoop_38 : decode cX11_errorOfLoop 38 = .ok (.iaload, 1) := by decide +kernel
theorem dX11_errorOfLoop_39 : decode cX11_errorOfLoop 39 = .ok (.istore 7, 2) := by decide +kernel
theorem dX11_errorOfLoop_41 : decode cX11_errorOfLoop 41 = .ok (.aload_n 0, 1) := by decide +kernel
theorem dX11_errorOfLoop_42 : decode cX11_errorOfLoop 42 = .ok (.getfield 40, 3) := by decide +kernel
theorem dX11_errorOfLoop_45 : decode cX11_errorOfLoop 45 = .ok (.aload_n 0, 1) := by decide +kernel
theorem dX11_errorOfLoop_46 : decode cX11_errorOfLoop 46 = .ok (.getfield 10, 3) := by decide +kernel
theorem dX11_errorOfLoop_49 : decode cX11_errorOfLoop 49 = .ok (.aload 4, 2) := by decide +kernel
theorem dX11_errorOfLoop_51 : decode cX11_errorOfLoop 51 = .ok (.iload 5, 2) := by decide +kernel
theorem dX11_errorOfLoop_53 : decode cX11_errorOfLoop 53 = .ok (.iload 6, 2) := by decide +kernel
theorem dX11_errorOfLoop_55 : decode cX11_errorOfLoop 55 = .ok (.iload 7, 2) := by decide +kernel
theorem dX11_errorOfLoop_57 : decode cX11_errorOfLoop 57 = .ok (.iload_n 2, 1) := by decide +kernel
theorem dX11_errorOfLoop_58 : decode cX11_errorOfLoop 58 = .ok (.invokevirtual 424, 3) := by decide +kernel
theorem dX11_errorOfLoop_61 : decode cX11_errorOfLoop 61 = .ok (.aload_n 0, 1) := by decide +kernel
theorem dX11_errorOfLoop_62 : decode cX11_errorOfLoop 62 = .ok (.getfield 40, 3) := by decide +kernel
theorem dX11_errorOfLoop_65 : decode cX11_errorOfLoop 65 = .ok (.invokevirtual 197, 3) := by decide +kernel
theorem dX11_errorOfLoop_68 : decode cX11_errorOfLoop 68 = .ok (.ifCond .eq 32, 3) := by decide +kernel
theorem dX11_errorOfLoop_71 : decode cX11_errorOfLoop 71 = .ok (.aload_n 0, 1) := by decide +kernel
theorem dX11_errorOfLoop_72 : decode cX11_errorOfLoop 72 = .ok (.getfield 40, 3) := by decide +kernel
theorem dX11_errorOfLoop_75 : decode cX11_errorOfLoop 75 = .ok (.aload_n 0, 1) := by decide +kernel
theorem dX11_errorOfLoop_76 : decode cX11_errorOfLoop 76 = .ok (.getfield 10, 3) := by decide +kernel
theorem dX11_errorOfLoop_79 : decode cX11_errorOfLoop 79 = .ok (.aload 4, 2) := by decide +kernel
theorem dX11_errorOfLoop_81 : decode cX11_errorOfLoop 81 = .ok (.iload_n 2, 1) := by decide +kernel
theorem dX11_errorOfLoop_82 : decode cX11_errorOfLoop 82 = .ok (.aload_n 0, 1) := by decide +kernel
theorem dX11_errorOfLoop_83 : decode cX11_errorOfLoop 83 = .ok (.getfield 40, 3) := by decide +kernel
theorem dX11_errorOfLoop_86 : decode cX11_errorOfLoop 86 = .ok (.getfield 201, 3) := by decide +kernel
theorem dX11_errorOfLoop_89 : decode cX11_errorOfLoop 89 = .ok (.aload_n 0, 1) := by decide +kernel
theorem dX11_errorOfLoop_90 : decode cX11_errorOfLoop 90 = .ok (.getfield 40, 3) := by decide +kernel
theorem dX11_errorOfLoop_93 : decode cX11_errorOfLoop 93 = .ok (.getfield 204, 3) := by decide +kernel
theorem dX11_errorOfLoop_96 : decode cX11_errorOfLoop 96 = .ok (.iload_n 3, 1) := by decide +kernel
theorem dX11_errorOfLoop_97 : decode cX11_errorOfLoop 97 = .ok (.invokevirtual 424, 3) := by decide +kernel
theorem dX11_errorOfLoop_100 : decode cX11_errorOfLoop 100 = .ok (.aload_n 0, 1) := by decide +kernel
theorem dX11_errorOfLoop_101 : decode cX11_errorOfLoop 101 = .ok (.getfield 40, 3) := by decide +kernel
theorem dX11_errorOfLoop_104 : decode cX11_errorOfLoop 104 = .ok (.invokevirtual 197, 3) := by decide +kernel
theorem dX11_errorOfLoop_107 : decode cX11_errorOfLoop 107 = .ok (.ifCond .eq 33, 3) := by decide +kernel
theorem dX11_errorOfLoop_110 : decode cX11_errorOfLoop 110 = .ok (.aload_n 0, 1) := by decide +kernel
theorem dX11_errorOfLoop_111 : decode cX11_errorOfLoop 111 = .ok (.getfield 40, 3) := by decide +kernel
theorem dX11_errorOfLoop_114 : decode cX11_errorOfLoop 114 = .ok (.aload_n 0, 1) := by decide +kernel
theorem dX11_errorOfLoop_115 : decode cX11_errorOfLoop 115 = .ok (.getfield 10, 3) := by decide +kernel
theorem dX11_errorOfLoop_118 : decode cX11_errorOfLoop 118 = .ok (.aload 4, 2) := by decide +kernel
theorem dX11_errorOfLoop_120 : decode cX11_errorOfLoop 120 = .ok (.iload_n 3, 1) := by decide +kernel
theorem dX11_errorOfLoop_121 : decode cX11_errorOfLoop 121 = .ok (.aload_n 0, 1) := by decide +kernel
theorem dX11_errorOfLoop_122 : decode cX11_errorOfLoop 122 = .ok (.getfield 40, 3) := by decide +kernel
theorem dX11_errorOfLoop_125 : decode cX11_errorOfLoop 125 = .ok (.getfield 201, 3) := by decide +kernel
theorem dX11_errorOfLoop_128 : decode cX11_errorOfLoop 128 = .ok (.aload_n 0, 1) := by decide +kernel
theorem dX11_errorOfLoop_129 : decode cX11_errorOfLoop 129 = .ok (.getfield 40, 3) := by decide +kernel
theorem dX11_errorOfLoop_132 : decode cX11_errorOfLoop 132 = .ok (.getfield 204, 3) := by decide +kernel
theorem dX11_errorOfLoop_135 : decode cX11_errorOfLoop 135 = .ok (.iload 5, 2) := by decide +kernel
theorem dX11_errorOfLoop_137 : decode cX11_errorOfLoop 137 = .ok (.invokevirtual 424, 3) := by decide +kernel
theorem dX11_errorOfLoop_140 : decode cX11_errorOfLoop 140 = .ok (.aload_n 0, 1) := by decide +kernel
theorem dX11_errorOfLoop_141 : decode cX11_errorOfLoop 141 = .ok (.getfield 40, 3) := by decide +kernel
theorem dX11_errorOfLoop_144 : decode cX11_errorOfLoop 144 = .ok (.invokevirtual 197, 3) := by decide +kernel
theorem dX11_errorOfLoop_147 : decode cX11_errorOfLoop 147 = .ok (.ifCond .eq 33, 3) := by decide +kernel
theorem dX11_errorOfLoop_150 : decode cX11_errorOfLoop 150 = .ok (.aload_n 0, 1) := by decide +kernel
theorem dX11_errorOfLoop_151 : decode cX11_errorOfLoop 151 = .ok (.getfield 40, 3) := by decide +kernel
theorem dX11_errorOfLoop_154 : decode cX11_errorOfLoop 154 = .ok (.getfield 201, 3) := by decide +kernel
theorem dX11_errorOfLoop_157 : decode cX11_errorOfLoop 157 = .ok (.iload 6, 2) := by decide +kernel
theorem dX11_errorOfLoop_159 : decode cX11_errorOfLoop 159 = .ok (.isub, 1) := by decide +kernel
theorem dX11_errorOfLoop_160 : decode cX11_errorOfLoop 160 = .ok (.invokestatic 368, 3) := by decide +kernel
theorem dX11_errorOfLoop_163 : decode cX11_errorOfLoop 163 = .ok (.aload_n 0, 1) := by decide +kernel
theorem dX11_errorOfLoop_164 : decode cX11_errorOfLoop 164 = .ok (.getfield 40, 3) := by decide +kernel
theorem dX11_errorOfLoop_167 : decode cX11_errorOfLoop 167 = .ok (.getfield 204, 3) := by decide +kernel
theorem dX11_errorOfLoop_170 : decode cX11_errorOfLoop 170 = .ok (.iload 7, 2) := by decide +kernel
theorem dX11_errorOfLoop_172 : decode cX11_errorOfLoop 172 = .ok (.isub, 1) := by decide +kernel
theorem dX11_errorOfLoop_173 : decode cX11_errorOfLoop 173 = .ok (.invokestatic 368, 3) := by decide +kernel
theorem dX11_errorOfLoop_176 : decode cX11_errorOfLoop 176 = .ok (.iadd, 1) := by decide +kernel
theorem dX11_errorOfLoop_177 : decode cX11_errorOfLoop 177 = .ok (.goto 4, 3) := by decide +kernel
theorem dX11_errorOfLoop_180 : decode cX11_errorOfLoop 180 = .ok (.iconst (-1), 1) := by decide +kernel
theorem dX11_errorOfLoop_181 : decode cX11_errorOfLoop 181 = .ok (.ireturn, 1) := by decide +kernel
theorem dX11_frameOfGap_0 : decode cX11_frameOfGap 0 = .ok (.iconst 0, 1) := by decide +kernel
theorem dX11_frameOfGap_1 : decode cX11_frameOfGap 1 = .ok (.istore_n 2, 1) := by decide +kernel
theorem dX11_frameOfGap_2 : decode cX11_frameOfGap 2 = .ok (.iconst 0, 1) := by decide +kernel
theorem dX11_frameOfGap_3 : decode cX11_frameOfGap 3 = .ok (.istore_n 3, 1) := by decide +kernel
theorem dX11_frameOfGap_4 : decode cX11_frameOfGap 4 = .ok (.iload_n 3, 1) := by decide +kernel
theorem dX11_frameOfGap_5 : decode cX11_frameOfGap 5 = .ok (.aload_n 0, 1) := by decide +kernel
theorem dX11_frameOfGap_6 : decode cX11_frameOfGap 6 = .ok (.getfield 10, 3) := by decide +kernel
theorem dX11_frameOfGap_9 : decode cX11_frameOfGap 9 = .ok (.getfield 95, 3) := by decide +kernel
theorem dX11_frameOfGap_12 : decode cX11_frameOfGap 12 = .ok (.if_icmp .ge 30, 3) := by decide +kernel
theorem dX11_frameOfGap_15 : decode cX11_frameOfGap 15 = .ok (.aload_n 0, 1) := by decide +kernel
theorem dX11_frameOfGap_16 : decode cX11_frameOfGap 16 = .ok (.getfield 10, 3) := by decide +kernel
theorem dX11_frameOfGap_19 : decode cX11_frameOfGap 19 = .ok (.iload_n 3, 1) := by decide +kernel
theorem dX11_frameOfGap_20 : decode cX11_frameOfGap 20 = .ok (.invokevirtual 298, 3) := by decide +kernel
theorem dX11_frameOfGap_23 : decode cX11_frameOfGap 23 = .ok (.ifCond .le 13, 3) := by decide +kernel
theorem dX11_frameOfGap_26 : decode cX11_frameOfGap 26 = .ok (.iload_n 2, 1) := by decide +kernel
theorem dX11_frameOfGap_27 : decode cX11_frameOfGap 27 = .ok (.iload_n 1, 1) := by decide +kernel
theorem dX11_frameOfGap_28 : decode cX11_frameOfGap 28 = .ok (.if_icmp .ne 5, 3) := by decide +kernel
theorem dX11_frameOfGap_31 : decode cX11_frameOfGap 31 = .ok (.iload_n 3, 1) := by decide +kernel
theorem dX11_frameOfGap_32 : decode cX11_frameOfGap 32 = .ok (.ireturn, 1) := by decide +kernel
theorem dX11_frameOfGap_33 : decode cX11_frameOfGap 33 = .ok (.iinc 2 1, 3) := by decide +kernel
theorem dX11_frameOfGap_36 : decode cX11_frameOfGap 36 = .ok (.iinc 3 1, 3) := by decide +kernel
theorem dX11_frameOfGap_39 : decode cX11_frameOfGap 39 = .ok (.goto (-35), 3) := by decide +kernel
theorem dX11_frameOfGap_42 : decode cX11_frameOfGap 42 = .ok (.iconst (-1), 1) := by decide +kernel
theorem dX11_frameOfGap_43 : decode cX11_frameOfGap 43 = .ok (.ireturn, 1) := by decide +kernel
theorem dX11_averageMelt_0 : decode cX11_averageMelt 0 = .ok (.iload_n 1, 1) := by decide +kernel
theorem dX11_averageMelt_1 : decode cX11_averageMelt 1 = .ok (.iload_n 2, 1) := by decide +kernel
theorem dX11_averageMelt_2 : decode cX11_averageMelt 2 = .ok (.if_icmp .le 6, 3) := by decide +kernel
theorem dX11_averageMelt_5 : decode cX11_averageMelt 5 = .ok (.bipush (-2), 2) := by decide +kernel
theorem dX11_averageMelt_7 : decode cX11_averageMelt 7 = .ok (.ireturn, 1) := by decide +kernel
theorem dX11_averageMelt_8 : decode cX11_averageMelt 8 = .ok (.iconst 0, 1) := by decide +kernel
theorem dX11_averageMelt_9 : decode cX11_averageMelt 9 = .ok (.istore_n 3, 1) := by decide +kernel
theorem dX11_averageMelt_10 : decode cX11_averageMelt 10 = .ok (.iconst 0, 1) := by decide +kernel
theorem dX11_averageMelt_11 : decode cX11_averageMelt 11 = .ok (.istore 4, 2) := by decide +kernel
theorem dX11_averageMelt_13 : decode cX11_averageMelt 13 = .ok (.iconst 0, 1) := by decide +kernel
theorem dX11_averageMelt_14 : decode cX11_averageMelt 14 = .ok (.istore 5, 2) := by decide +kernel
theorem dX11_averageMelt_16 : decode cX11_averageMelt 16 = .ok (.iload 5, 2) := by decide +kernel
theorem dX11_averageMelt_18 : decode cX11_averageMelt 18 = .ok (.aload_n 0, 1) := by decide +kernel
theorem dX11_averageMelt_19 : decode cX11_averageMelt 19 = .ok (.getfield 10, 3) := by decide +kernel
theorem dX11_averageMelt_22 : decode cX11_averageMelt 22 = .ok (.getfield 110, 3) := by decide +kernel
theorem dX11_averageMelt_25 : decode cX11_averageMelt 25 = .ok (.if_icmp .ge 39, 3) := by decide +kernel
theorem dX11_averageMelt_28 : decode cX11_averageMelt 28 = .ok (.aload_n 0, 1) := by decide +kernel
theorem dX11_averageMelt_29 : decode cX11_averageMelt 29 = .ok (.getfield 10, 3) := by decide +kernel
theorem dX11_averageMelt_32 : decode cX11_averageMelt 32 = .ok (.getfield 312, 3) := by decide +kernel
theorem dX11_averageMelt_35 : decode cX11_averageMelt 35 = .ok (.iload 5, 2) := by decide +kernel
theorem dX11_averageMelt_37 : decode cX11_averageMelt 37 = .ok (.aaload, 1) := by decide +kernel
theorem dX11_averageMelt_38 : decode cX11_averageMelt 38 = .ok (.iload_n 1, 1) := by decide +kernel
theorem dX11_averageMelt_39 : decode cX11_averageMelt 39 = .ok (.iload_n 2, 1) := by decide +kernel
theorem dX11_averageMelt_40 : decode cX11_averageMelt 40 = .ok (.invokevirtual 346, 3) := by decide +kernel
theorem dX11_averageMelt_43 : decode cX11_averageMelt 43 = .ok (.istore 6, 2) := by decide +kernel
theorem dX11_averageMelt_45 : decode cX11_averageMelt 45 = .ok (.iload 6, 2) := by decide +kernel
theorem dX11_averageMelt_47 : decode cX11_averageMelt 47 = .ok (.ifCond .lt 11, 3) := by decide +kernel
theorem dX11_averageMelt_50 : decode cX11_averageMelt 50 = .ok (.iload_n 3, 1) := by decide +kernel
theorem dX11_averageMelt_51 : decode cX11_averageMelt 51 = .ok (.iload 6, 2) := by decide +kernel
theorem dX11_averageMelt_53 : decode cX11_averageMelt 53 = .ok (.iadd, 1) := by decide +kernel
theorem dX11_averageMelt_54 : decode cX11_averageMelt 54 = .ok (.istore_n 3, 1) := by decide +kernel
theorem dX11_averageMelt_55 : decode cX11_averageMelt 55 = .ok (.iinc 4 1, 3) := by decide +kernel
theorem dX11_averageMelt_58 : decode cX11_averageMelt 58 = .ok (.iinc 5 1, 3) := by decide +kernel
theorem dX11_averageMelt_61 : decode cX11_averageMelt 61 = .ok (.goto (-45), 3) := by decide +kernel
theorem dX11_averageMelt_64 : decode cX11_averageMelt 64 = .ok (.iload 4, 2) := by decide +kernel
theorem dX11_averageMelt_66 : decode cX11_averageMelt 66 = .ok (.ifCond .ne 7, 3) := by decide +kernel
theorem dX11_averageMelt_69 : decode cX11_averageMelt 69 = .ok (.iconst (-1), 1) := by decide +kernel
theorem dX11_averageMelt_70 : decode cX11_averageMelt 70 = .ok (.goto 9, 3) := by decide +kernel
theorem dX11_averageMelt_73 : decode cX11_averageMelt 73 = .ok (.iload_n 3, 1) := by decide +kernel
theorem dX11_averageMelt_74 : decode cX11_averageMelt 74 = .ok (.iload 4, 2) := by decide +kernel
theorem dX11_averageMelt_76 : decode cX11_averageMelt 76 = .ok (.invokestatic 250, 3) := by decide +kernel
theorem dX11_averageMelt_79 : decode cX11_averageMelt 79 = .ok (.ireturn, 1) := by decide +kernel
theorem dX11_registeredAt_0 : decode cX11_registeredAt 0 = .ok (.iload_n 3, 1) := by decide +kernel
theorem dX11_registeredAt_1 : decode cX11_registeredAt 1 = .ok (.aload_n 1, 1) := by decide +kernel
theorem dX11_registeredAt_2 : decode cX11_registeredAt 2 = .ok (.iload_n 2, 1) := by decide +kernel
theorem dX11_registeredAt_3 : decode cX11_registeredAt 3 = .ok (.invokevirtual 184, 3) := by decide +kernel
theorem dX11_registeredAt_6 : decode cX11_registeredAt 6 = .ok (.iadd, 1) := by decide +kernel
theorem dX11_registeredAt_7 : decode cX11_registeredAt 7 = .ok (.istore 5, 2) := by decide +kernel
theorem dX11_registeredAt_9 : decode cX11_registeredAt 9 = .ok (.iload 4, 2) := by decide +kernel
theorem dX11_registeredAt_11 : decode cX11_registeredAt 11 = .ok (.aload_n 1, 1) := by decide +kernel
theorem dX11_registeredAt_12 : decode cX11_registeredAt 12 = .ok (.iload_n 2, 1) := by decide +kernel
theorem dX11_registeredAt_13 : decode cX11_registeredAt 13 = .ok (.invokevirtual 187, 3) := by decide +kernel
theorem dX11_registeredAt_16 : decode cX11_registeredAt 16 = .ok (.iadd, 1) := by decide +kernel
theorem dX11_registeredAt_17 : decode cX11_registeredAt 17 = .ok (.istore 6, 2) := by decide +kernel
theorem dX11_registeredAt_19 : decode cX11_registeredAt 19 = .ok (.aload_n 1, 1) := by decide +kernel
theorem dX11_registeredAt_20 : decode cX11_registeredAt 20 = .ok (.iload_n 2, 1) := by decide +kernel
theorem dX11_registeredAt_21 : decode cX11_registeredAt 21 = .ok (.invokevirtual 178, 3) := by decide +kernel
theorem dX11_registeredAt_24 : decode cX11_registeredAt 24 = .ok (.ifCond .eq 21, 3) := by decide +kernel
theorem dX11_registeredAt_27 : decode cX11_registeredAt 27 = .ok (.aload_n 0, 1) := by decide +kernel
theorem dX11_registeredAt_28 : decode cX11_registeredAt 28 = .ok (.getfield 10, 3) := by decide +kernel
theorem dX11_registeredAt_31 : decode cX11_registeredAt 31 = .ok (.iload 5, 2) := by decide +kernel
theorem dX11_registeredAt_33 : decode cX11_registeredAt 33 = .ok (.iload 6, 2) := by decide +kernel
theorem dX11_registeredAt_35 : decode cX11_registeredAt 35 = .ok (.invokevirtual 154, 3) := by decide +kernel
theorem dX11_registeredAt_38 : decode cX11_registeredAt 38 = .ok (.ifCond .eq 7, 3) := by decide +kernel
theorem dX11_registeredAt_41 : decode cX11_registeredAt 41 = .ok (.iconst 1, 1) := by decide +kernel
theorem dX11_registeredAt_42 : decode cX11_registeredAt 42 = .ok (.goto 4, 3) := by decide +kernel
theorem dX11_registeredAt_45 : decode cX11_registeredAt 45 = .ok (.iconst 0, 1) := by decide +kernel
theorem dX11_registeredAt_46 : decode cX11_registeredAt 46 = .ok (.istore 7, 2) := by decide +kernel
theorem dX11_registeredAt_48 : decode cX11_registeredAt 48 = .ok (.iload 7, 2) := by decide +kernel
theorem dX11_registeredAt_50 : decode cX11_registeredAt 50 = .ok (.ifCond .eq 18, 3) := by decide +kernel
theorem dX11_registeredAt_53 : decode cX11_registeredAt 53 = .ok (.aload_n 0, 1) := by decide +kernel
theorem dX11_registeredAt_54 : decode cX11_registeredAt 54 = .ok (.getfield 10, 3) := by decide +kernel
theorem dX11_registeredAt_57 : decode cX11_registeredAt 57 = .ok (.iload_n 2, 1) := by decide +kernel
theorem dX11_registeredAt_58 : decode cX11_registeredAt 58 = .ok (.iload 5, 2) := by decide +kernel
theorem dX11_registeredAt_60 : decode cX11_registeredAt 60 = .ok (.iload 6, 2) := by decide +kernel
theorem dX11_registeredAt_62 : decode cX11_registeredAt 62 = .ok (.invokevirtual 147, 3) := by decide +kernel
theorem dX11_registeredAt_65 : decode cX11_registeredAt 65 = .ok (.goto 4, 3) := by decide +kernel
theorem dX11_registeredAt_68 : decode cX11_registeredAt 68 = .ok (.iconst (-1), 1) := by decide +kernel
theorem dX11_registeredAt_69 : decode cX11_registeredAt 69 = .ok (.ireturn, 1) := by decide +kernel
theorem dX12_init_0 : decode cX12_init 0 = .ok (.aload_n 0, 1) := by decide +kernel
theorem dX12_init_1 : decode cX12_init 1 = .ok (.invokespecial 1, 3) := by decide +kernel
theorem dX12_init_4 : decode cX12_init 4 = .ok (.aload_n 0, 1) := by decide +kernel
theorem dX12_init_5 : decode cX12_init 5 = .ok (.sipush 811, 3) := by decide +kernel
theorem dX12_init_8 : decode cX12_init 8 = .ok (.newarray .int, 2) := by decide +kernel
theorem dX12_init_10 : decode cX12_init 10 = .ok (.putfield 7, 3) := by decide +kernel
theorem dX12_init_13 : decode cX12_init 13 = .ok (.aload_n 0, 1) := by decide +kernel
theorem dX12_init_14 : decode cX12_init 14 = .ok (.sipush 811, 3) := by decide +kernel
theorem dX12_init_17 : decode cX12_init 17 = .ok (.newarray .int, 2) := by decide +kernel
theorem dX12_init_19 : decode cX12_init 19 = .ok (.putfield 13, 3) := by decide +kernel
theorem dX12_init_22 : decode cX12_init 22 = .ok (.aload_n 0, 1) := by decide +kernel
theorem dX12_init_23 : decode cX12_init 23 = .ok (.sipush 8110, 3) := by decide +kernel
theorem dX12_init_26 : decode cX12_init 26 = .ok (.newarray .int, 2) := by decide +kernel
theorem dX12_init_28 : decode cX12_init 28 = .ok (.putfield 16, 3) := by decide +kernel
theorem dX12_init_31 : decode cX12_init 31 = .ok (.aload_n 0, 1) := by decide +kernel
theorem dX12_init_32 : decode cX12_init 32 = .ok (.sipush 1400, 3) := by decide +kernel
theorem dX12_init_35 : decode cX12_init 35 = .ok (.newarray .byte, 2) := by decide +kernel
theorem dX12_init_37 : decode cX12_init 37 = .ok (.putfield 19, 3) := by decide +kernel
theorem dX12_init_40 : decode cX12_init 40 = .ok (.aload_n 0, 1) := by decide +kernel
theorem dX12_init_41 : decode cX12_init 41 = .ok (.iconst (-1), 1) := by decide +kernel
theorem dX12_init_42 : decode cX12_init 42 = .ok (.putfield 23, 3) := by decide +kernel
theorem dX12_init_45 : decode cX12_init 45 = .ok (.aload_n 0, 1) := by decide +kernel
theorem dX12_init_46 : decode cX12_init 46 = .ok (.bipush 6, 2) := by decide +kernel
theorem dX12_init_48 : decode cX12_init 48 = .ok (.newarray .boolean, 2) := by decide +kernel
theorem dX12_init_50 : decode cX12_init 50 = .ok (.putfield 27, 3) := by decide +kernel
theorem dX12_init_53 : decode cX12_init 53 = .ok (.aload_n 0, 1) := by decide +kernel
theorem dX12_init_54 : decode cX12_init 54 = .ok (.bipush 6, 2) := by decide +kernel
theorem dX12_init_56 : decode cX12_init 56 = .ok (.newarray .int, 2) := by decide +kernel
theorem dX12_init_58 : decode cX12_init 58 = .ok (.putfield 31, 3) := by decide +kernel
theorem dX12_init_61 : decode cX12_init 61 = .ok (.aload_n 0, 1) := by decide +kernel
theorem dX12_init_62 : decode cX12_init 62 = .ok (.bipush 6, 2) := by decide +kernel
theorem dX12_init_64 : decode cX12_init 64 = .ok (.newarray .int, 2) := by decide +kernel
theorem dX12_init_66 : decode cX12_init 66 = .ok (.putfield 34, 3) := by decide +kernel
theorem dX12_init_69 : decode cX12_init 69 = .ok (.aload_n 0, 1) := by decide +kernel
theorem dX12_init_70 : decode cX12_init 70 = .ok (.bipush 6, 2) := by decide +kernel
theorem dX12_init_72 : decode cX12_init 72 = .ok (.newarray .int, 2) := by decide +kernel
theorem dX12_init_74 : decode cX12_init 74 = .ok (.putfield 37, 3) := by decide +kernel
theorem dX12_init_77 : decode cX12_init 77 = .ok (.aload_n 0, 1) := by decide +kernel
theorem dX12_init_78 : decode cX12_init 78 = .ok (.bipush 6, 2) := by decide +kernel
theorem dX12_init_80 : decode cX12_init 80 = .ok (.newarray .boolean, 2) := by decide +kernel
theorem dX12_init_82 : decode cX12_init 82 = .ok (.putfield 40, 3) := by decide +kernel
theorem dX12_init_85 : decode cX12_init 85 = .ok (.aload_n 0, 1) := by decide +kernel
theorem dX12_init_86 : decode cX12_init 86 = .ok (.bipush 6, 2) := by decide +kernel
theorem dX12_init_88 : decode cX12_init 88 = .ok (.newarray .int, 2) := by decide +kernel
theorem dX12_init_90 : decode cX12_init 90 = .ok (.putfield 43, 3) := by decide +kernel
theorem dX12_init_93 : decode cX12_init 93 = .ok (.aload_n 0, 1) := by decide +kernel
theorem dX12_init_94 : decode cX12_init 94 = .ok (.bipush 6, 2) := by decide +kernel
theorem dX12_init_96 : decode cX12_init 96 = .ok (.newarray .int, 2) := by decide +kernel
theorem dX12_init_98 : decode cX12_init 98 = .ok (.putfield 46, 3) := by decide +kernel
theorem dX12_init_101 : decode cX12_init 101 = .ok (.aload_n 0, 1) := by decide +kernel
theorem dX12_init_102 : decode cX12_init 102 = .ok (.bipush 6, 2) := by decide +kernel
theorem dX12_init_104 : decode cX12_init 104 = .ok (.newarray .int, 2) := by decide +kernel
theorem dX12_init_106 : decode cX12_init 106 = .ok (.putfield 49, 3) := by decide +kernel
theorem dX12_init_109 : decode cX12_init 109 = .ok (.aload_n 0, 1) := by decide +kernel
theorem dX12_init_110 : decode cX12_init 110 = .ok (.bipush 6, 2) := by decide +kernel
theorem dX12_init_112 : decode cX12_init 112 = .ok (.newarray .int, 2) := by decide +kernel
theorem dX12_init_114 : decode cX12_init 114 = .ok (.putfield 52, 3) := by decide +kernel
theorem dX12_init_117 : decode cX12_init 117 = .ok (.aload_n 0, 1) := by decide +kernel
theorem dX12_init_118 : decode cX12_init 118 = .ok (.bipush 6, 2) := by decide +kernel
theorem dX12_init_120 : decode cX12_init 120 = .ok (.newarray .int, 2) := by decide +kernel
theorem dX12_init_122 : decode cX12_init 122 = .ok (.putfield 55, 3) := by decide +kernel
theorem dX12_init_125 : decode cX12_init 125 = .ok (.aload_n 0, 1) := by decide +kernel
theorem dX12_init_126 : decode cX12_init 126 = .ok (.bipush 6, 2) := by decide +kernel
theorem dX12_init_128 : decode cX12_init 128 = .ok (.newarray .int, 2) := by decide +kernel
theorem dX12_init_130 : decode cX12_init 130 = .ok (.putfield 58, 3) := by decide +kernel
theorem dX12_init_133 : decode cX12_init 133 = .ok (.aload_n 0, 1) := by decide +kernel
theorem dX12_init_134 : decode cX12_init 134 = .ok (.bipush 6, 2) := by decide +kernel
theorem dX12_init_136 : decode cX12_init 136 = .ok (.newarray .int, 2) := by decide +kernel
theorem dX12_init_138 : decode cX12_init 138 = .ok (.putfield 61, 3) := by decide +kernel
theorem dX12_init_141 : decode cX12_init 141 = .ok (.aload_n 0, 1) := by decide +kernel
theorem dX12_init_142 : decode cX12_init 142 = .ok (.bipush 6, 2) := by decide +kernel
theorem dX12_init_144 : decode cX12_init 144 = .ok (.newarray .int, 2) := by decide +kernel
theorem dX12_init_146 : decode cX12_init 146 = .ok (.putfield 64, 3) := by decide +kernel
theorem dX12_init_149 : decode cX12_init 149 = .ok (.aload_n 0, 1) := by decide +kernel
theorem dX12_init_150 : decode cX12_init 150 = .ok (.bipush 6, 2) := by decide +kernel
theorem dX12_init_152 : decode cX12_init 152 = .ok (.newarray .int, 2) := by decide +kernel
theorem dX12_init_154 : decode cX12_init 154 = .ok (.putfield 67, 3) := by decide +kernel
theorem dX12_init_157 : decode cX12_init 157 = .ok (.aload_n 0, 1) := by decide +kernel
theorem dX12_init_158 : decode cX12_init 158 = .ok (.bipush 6, 2) := by decide +kernel
theorem dX12_init_160 : decode cX12_init 160 = .ok (.newarray .boolean, 2) := by decide +kernel
theorem dX12_init_162 : decode cX12_init 162 = .ok (.putfield 70, 3) := by decide +kernel
theorem dX12_init_165 : decode cX12_init 165 = .ok (.aload_n 0, 1) := by decide +kernel
theorem dX12_init_166 : decode cX12_init 166 = .ok (.bipush 6, 2) := by decide +kernel
theorem dX12_init_168 : decode cX12_init 168 = .ok (.newarray .int, 2) := by decide +kernel
theorem dX12_init_170 : decode cX12_init 170 = .ok (.putfield 73, 3) := by decide +kernel
theorem dX12_init_173 : decode cX12_init 173 = .ok (.aload_n 0, 1) := by decide +kernel
theorem dX12_init_174 : decode cX12_init 174 = .ok (.bipush 6, 2) := by decide +kernel
theorem dX12_init_176 : decode cX12_init 176 = .ok (.newarray .int, 2) := by decide +kernel
theorem dX12_init_178 : decode cX12_init 178 = .ok (.putfield 76, 3) := by decide +kernel
theorem dX12_init_181 : decode cX12_init 181 = .ok (.aload_n 0, 1) := by decide +kernel
theorem dX12_init_182 : decode cX12_init 182 = .ok (.getfield 7, 3) := by decide +kernel
theorem dX12_init_185 : decode cX12_init 185 = .ok (.invokestatic 79, 3) := by decide +kernel
theorem dX12_init_188 : decode cX12_init 188 = .ok (.return_, 1) := by decide +kernel
theorem dX12_thrown_0 : decode cX12_thrown 0 = .ok (.aload_n 0, 1) := by decide +kernel
theorem dX12_thrown_1 : decode cX12_thrown 1 = .ok (.getfield 83, 3) := by decide +kernel
theorem dX12_thrown_4 : decode cX12_thrown 4 = .ok (.ireturn, 1) := by decide +kernel
theorem dX12_inRange_0 : decode cX12_inRange 0 = .ok (.iload_n 0, 1) := by decide +kernel
theorem dX12_inRange_1 : decode cX12_inRange 1 = .ok (.iload_n 1, 1) := by decide +kernel
theorem dX12_inRange_2 : decode cX12_inRange 2 = .ok (.if_icmp .lt 12, 3) := by decide +kernel
theorem dX12_inRange_5 : decode cX12_inRange 5 = .ok (.iload_n 0, 1) := by decide +kernel
theorem dX12_inRange_6 : decode cX12_inRange 6 = .ok (.iload_n 2, 1) := by decide +kernel
theorem dX12_inRange_7 : decode cX12_inRange 7 = .ok (.if_icmp .gt 7, 3) := by decide +kernel
theorem dX12_inRange_10 : decode cX12_inRange 10 = .ok (.iconst 1, 1) := by decide +kernel
theorem dX12_inRange_11 : decode cX12_inRange 11 = .ok (.goto 4, 3) := by decide +kernel
theorem dX12_inRange_14 : decode cX12_inRange 14 = .ok (.iconst 0, 1) := by decide +kernel
theorem dX12_inRange_15 : decode cX12_inRange 15 = .ok (.ireturn, 1) := by decide +kernel
theorem dX12_absolute_0 : decode cX12_absolute 0 = .ok (.iload_n 0, 1) := by decide +kernel
theorem dX12_absolute_1 : decode cX12_absolute 1 = .ok (.ifCond .ge 8, 3) := by decide +kernel
theorem dX12_absolute_4 : decode cX12_absolute 4 = .ok (.iload_n 0, 1) := by decide +kernel
theorem dX12_absolute_5 : decode cX12_absolute 5 = .ok (.ineg, 1) := by decide +kernel
theorem dX12_absolute_6 : decode cX12_absolute 6 = .ok (.goto 4, 3) := by decide +kernel
theorem dX12_absolute_9 : decode cX12_absolute 9 = .ok (.iload_n 0, 1) := by decide +kernel
theorem dX12_absolute_10 : decode cX12_absolute 10 = .ok (.ireturn, 1) := by decide +kernel
theorem dX12_reset_0 : decode cX12_reset 0 = .ok (.iconst 0, 1) := by decide +kernel
theorem dX12_reset_1 : decode cX12_reset 1 = .ok (.istore_n 1, 1) := by decide +kernel
theorem dX12_reset_2 : decode cX12_reset 2 = .ok (.iload_n 1, 1) := by decide +kernel
theorem dX12_reset_3 : decode cX12_reset 3 = .ok (.sipush 811, 3) := by decide +kernel
theorem dX12_reset_6 : decode cX12_reset 6 = .ok (.if_icmp .ge 13, 3) := by decide +kernel
theorem dX12_reset_9 : decode cX12_reset 9 = .ok (.aload_n 0, 1) := by decide +kernel
theorem dX12_reset_10 : decode cX12_reset 10 = .ok (.iload_n 1, 1) := by decide +kernel
theorem dX12_reset_11 : decode cX12_reset 11 = .ok (.iconst 0, 1) := by decide +kernel
theorem dX12_reset_12 : decode cX12_reset 12 = .ok (.iastore, 1) := by decide +kernel
theorem dX12_reset_13 : decode cX12_reset 13 = .ok (.iinc 1 1, 3) := by decide +kernel
theorem dX12_reset_16 : decode cX12_reset 16 = .ok (.goto (-14), 3) := by decide +kernel
theorem dX12_reset_19 : decode cX12_reset 19 = .ok (.aload_n 0, 1) := by decide +kernel
theorem dX12_reset_20 : decode cX12_reset 20 = .ok (.iconst 0, 1) := by decide +kernel
theorem dX12_reset_21 : decode cX12_reset 21 = .ok (.bipush 12, 2) := by decide +kernel
theorem dX12_reset_23 : decode cX12_reset 23 = .ok (.iastore, 1) := by decide +kernel
theorem dX12_reset_24 : decode cX12_reset 24 = .ok (.aload_n 0, 1) := by decide +kernel
theorem dX12_reset_25 : decode cX12_reset 25 = .ok (.iconst 1, 1) := by decide +kernel
theorem dX12_reset_26 : decode cX12_reset 26 = .ok (.bipush 8, 2) := by decide +kernel
theorem dX12_reset_28 : decode cX12_reset 28 = .ok (.iastore, 1) := by decide +kernel
theorem dX12_reset_29 : decode cX12_reset 29 = .ok (.aload_n 0, 1) := by decide +kernel
theorem dX12_reset_30 : decode cX12_reset 30 = .ok (.bipush 83, 2) := by decide +kernel
theorem dX12_reset_32 : decode cX12_reset 32 = .ok (.iconst 1, 1) := by decide +kernel
theorem dX12_reset_33 : decode cX12_reset 33 = .ok (.iastore, 1) := by decide +kernel
theorem dX12_reset_34 : decode cX12_reset 34 = .ok (.aload_n 0, 1) := by decide +kernel
theorem dX12_reset_35 : decode cX12_reset 35 = .ok (.bipush 84, 2) := by decide +kernel
theorem dX12_reset_37 : decode cX12_reset 37 = .ok (.iconst 2, 1) := by decide +kernel
theorem dX12_reset_38 : decode cX12_reset 38 = .ok (.iastore, 1) := by decide +kernel
theorem dX12_reset_39 : decode cX12_reset 39 = .ok (.aload_n 0, 1) := by decide +kernel
theorem dX12_reset_40 : decode cX12_reset 40 = .ok (.bipush 85, 2) := by decide +kernel
theorem dX12_reset_42 : decode cX12_reset 42 = .ok (.iconst 1, 1) := by decide +kernel
theorem dX12_reset_43 : decode cX12_reset 43 = .ok (.iastore, 1) := by decide +kernel
theorem dX12_reset_44 : decode cX12_reset 44 = .ok (.aload_n 0, 1) := by decide +kernel
theorem dX12_reset_45 : decode cX12_reset 45 = .ok (.bipush 86, 2) := by decide +kernel
theorem dX12_reset_47 : decode cX12_reset 47 = .ok (.iconst 2, 1) := by decide +kernel
theorem dX12_reset_48 : decode cX12_reset 48 = .ok (.iastore, 1) := by decide +kernel
theorem dX12_reset_49 : decode cX12_reset 49 = .ok (.aload_n 0, 1) := by decide +kernel
theorem dX12_reset_50 : decode cX12_reset 50 = .ok (.bipush 87, 2) := by decide +kernel
theorem dX12_reset_52 : decode cX12_reset 52 = .ok (.iconst 2, 1) := by decide +kernel
theorem dX12_reset_53 : decode cX12_reset 53 = .ok (.iastore, 1) := by decide +kernel
theorem dX12_reset_54 : decode cX12_reset 54 = .ok (.aload_n 0, 1) := by decide +kernel
theorem dX12_reset_55 : decode cX12_reset 55 = .ok (.bipush 88, 2) := by decide +kernel
theorem dX12_reset_57 : decode cX12_reset 57 = .ok (.bipush 100, 2) := by decide +kernel
theorem dX12_reset_59 : decode cX12_reset 59 = .ok (.iastore, 1) := by decide +kernel
theorem dX12_reset_60 : decode cX12_reset 60 = .ok (.aload_n 0, 1) := by decide +kernel
theorem dX12_reset_61 : decode cX12_reset 61 = .ok (.bipush 89, 2) := by decide +kernel
theorem dX12_reset_63 : decode cX12_reset 63 = .ok (.bipush 10, 2) := by decide +kernel
theorem dX12_reset_65 : decode cX12_reset 65 = .ok (.iastore, 1) := by decide +kernel
theorem dX12_reset_66 : decode cX12_reset 66 = .ok (.aload_n 0, 1) := by decide +kernel
theorem dX12_reset_67 : decode cX12_reset 67 = .ok (.bipush 90, 2) := by decide +kernel
theorem dX12_reset_69 : decode cX12_reset 69 = .ok (.bipush 50, 2) := by decide +kernel
theorem dX12_reset_71 : decode cX12_reset 71 = .ok (.iastore, 1) := by decide +kernel
theorem dX12_reset_72 : decode cX12_reset 72 = .ok (.return_, 1) := by decide +kernel
theorem dX12_leastOf_0 : decode cX12_leastOf 0 = .ok (.iload_n 0, 1) := by decide +kernel
theorem dX12_leastOf_1 : decode cX12_leastOf 1 = .ok (.iconst 1, 1) := by decide +kernel
theorem dX12_leastOf_2 : decode cX12_leastOf 2 = .ok (.if_icmp .eq 14, 3) := by decide +kernel
theorem dX12_leastOf_5 : decode cX12_leastOf 5 = .ok (.iload_n 0, 1) := by decide +kernel
theorem dX12_leastOf_6 : decode cX12_leastOf 6 = .ok (.iconst 5, 1) := by decide +kernel
theorem dX12_leastOf_7 : decode cX12_leastOf 7 = .ok (.if_icmp .eq 9, 3) := by decide +kernel
theorem dX12_leastOf_10 : decode cX12_leastOf 10 = .ok (.iload_n 0, 1) := by decide +kernel
theorem dX12_leastOf_11 : decode cX12_leastOf 11 = .ok (.bipush 6, 2) := by decide +kernel
theorem dX12_leastOf_13 : decode cX12_leastOf 13 = .ok (.if_icmp .ne 7, 3) := by decide +kernel
theorem dX12_leastOf_16 : decode cX12_leastOf 16 = .ok (.iconst 1, 1) := by decide +kernel
theorem dX12_leastOf_17 : decode cX12_leastOf 17 = .ok (.goto 4, 3) := by decide +kernel
theorem dX12_leastOf_20 : decode cX12_leastOf 20 = .ok (.iconst 0, 1) := by decide +kernel
theorem dX12_leastOf_21 : decode cX12_leastOf 21 = .ok (.ireturn, 1) := by decide +kernel
theorem dX12_mostOf_0 : decode cX12_mostOf 0 = .ok (.iload_n 0, 1) := by decide +kernel
theorem dX12_mostOf_1 : decode cX12_mostOf 1 = .ok (.tableswitch 60 0 6 #[43, 45, 47, 49, 49, 52, 56], 43) := by decide +kernel
theorem dX12_mostOf_44 : decode cX12_mostOf 44 = .ok (.iconst 2, 1) := by decide +kernel
theorem dX12_mostOf_45 : decode cX12_mostOf 45 = .ok (.ireturn, 1) := by decide +kernel
theorem dX12_mostOf_46 : decode cX12_mostOf 46 = .ok (.iconst 4, 1) := by decide +kernel
theorem dX12_mostOf_47 : decode cX12_mostOf 47 = .ok (.ireturn, 1) := by decide +kernel
theorem dX12_mostOf_48 : decode cX12_mostOf 48 = .ok (.iconst 3, 1) := by decide +kernel
theorem dX12_mostOf_49 : decode cX12_mostOf 49 = .ok (.ireturn, 1) := by decide +kernel
theorem dX12_mostOf_50 : decode cX12_mostOf 50 = .ok (.bipush 9, 2) := by decide +kernel
theorem dX12_mostOf_52 : decode cX12_mostOf 52 = .ok (.ireturn, 1) := by decide +kernel
theorem dX12_mostOf_53 : decode cX12_mostOf 53 = .ok (.sipush 1000, 3) := by decide +kernel
theorem dX12_mostOf_56 : decode cX12_mostOf 56 = .ok (.ireturn, 1) := by decide +kernel
theorem dX12_mostOf_57 : decode cX12_mostOf 57 = .ok (.sipush 999, 3) := by decide +kernel
theorem dX12_mostOf_60 : decode cX12_mostOf 60 = .ok (.ireturn, 1) := by decide +kernel
theorem dX12_mostOf_61 : decode cX12_mostOf 61 = .ok (.sipush 9999, 3) := by decide +kernel
theorem dX12_mostOf_64 : decode cX12_mostOf 64 = .ok (.ireturn, 1) := by decide +kernel
theorem dX12_remember_0 : decode cX12_remember 0 = .ok (.aload_n 0, 1) := by decide +kernel
theorem dX12_remember_1 : decode cX12_remember 1 = .ok (.getfield 86, 3) := by decide +kernel
theorem dX12_remember_4 : decode cX12_remember 4 = .ok (.bipush 10, 2) := by decide +kernel
theorem dX12_remember_6 : decode cX12_remember 6 = .ok (.if_icmp .ne 46, 3) := by decide +kernel
theorem dX12_remember_9 : decode cX12_remember 9 = .ok (.sipush 811, 3) := by decide +kernel
theorem dX12_remember_12 : decode cX12_remember 12 = .ok (.istore_n 1, 1) := by decide +kernel
theorem dX12_remember_13 : decode cX12_remember 13 = .ok (.iload_n 1, 1) := by decide +kernel
theorem dX12_remember_14 : decode cX12_remember 14 = .ok (.sipush 8110, 3) := by decide +kernel
theorem dX12_remember_17 : decode cX12_remember 17 = .ok (.if_icmp .ge 25, 3) := by decide +kernel
theorem dX12_remember_20 : decode cX12_remember 20 = .ok (.aload_n 0, 1) := by decide +kernel
theorem dX12_remember_21 : decode cX12_remember 21 = .ok (.getfield 16, 3) := by decide +kernel
theorem dX12_remember_24 : decode cX12_remember 24 = .ok (.iload_n 1, 1) := by decide +kernel
theorem dX12_remember_25 : decode cX12_remember 25 = .ok (.sipush 811, 3) := by decide +kernel
theorem dX12_remember_28 : decode cX12_remember 28 = .ok (.isub, 1) := by decide +kernel
theorem dX12_remember_29 : decode cX12_remember 29 = .ok (.aload_n 0, 1) := by decide +kernel
theorem dX12_remember_30 : decode cX12_remember 30 = .ok (.getfield 16, 3) := by decide +kernel
theorem dX12_remember_33 : decode cX12_remember 33 = .ok (.iload_n 1, 1) := by decide +kernel
theorem dX12_remember_34 : decode cX12_remember 34 = .ok (.iaload, 1) := by decide +kernel
theorem dX12_remember_35 : decode cX12_remember 35 = .ok (.iastore, 1) := by decide +kernel
theorem dX12_remember_36 : decode cX12_remember 36 = .ok (.iinc 1 1, 3) := by decide +kernel
theorem dX12_remember_39 : decode cX12_remember 39 = .ok (.goto (-26), 3) := by decide +kernel
theorem dX12_remember_42 : decode cX12_remember 42 = .ok (.aload_n 0, 1) := by decide +kernel
theorem dX12_remember_43 : decode cX12_remember 43 = .ok (.dup, 1) := by decide +kernel
theorem dX12_remember_44 : decode cX12_remember 44 = .ok (.getfield 86, 3) := by decide +kernel
theorem dX12_remember_47 : decode cX12_remember 47 = .ok (.iconst 1, 1) := by decide +kernel
theorem dX12_remember_48 : decode cX12_remember 48 = .ok (.isub, 1) := by decide +kernel
theorem dX12_remember_49 : decode cX12_remember 49 = .ok (.putfield 86, 3) := by decide +kernel
theorem dX12_remember_52 : decode cX12_remember 52 = .ok (.iconst 0, 1) := by decide +kernel
theorem dX12_remember_53 : decode cX12_remember 53 = .ok (.istore_n 1, 1) := by decide +kernel
theorem dX12_remember_54 : decode cX12_remember 54 = .ok (.iload_n 1, 1) := by decide +kernel
theorem dX12_remember_55 : decode cX12_remember 55 = .ok (.sipush 811, 3) := by decide +kernel
theorem dX12_remember_58 : decode cX12_remember 58 = .ok (.if_icmp .ge 30, 3) := by decide +kernel
theorem dX12_remember_61 : decode cX12_remember 61 = .ok (.aload_n 0, 1) := by decide +kernel
theorem dX12_remember_62 : decode cX12_remember 62 = .ok (.getfield 16, 3) := by decide +kernel
theorem dX12_remember_65 : decode cX12_remember 65 = .ok (.aload_n 0, 1) := by decide +kernel
theorem dX12_remember_66 : decode cX12_remember 66 = .ok (.getfield 86, 3) := by decide +kernel
theorem dX12_remember_69 : decode cX12_remember 69 = .ok (.sipush 811, 3) := by decide +kernel
theorem dX12_remember_72 : decode cX12_remember 72 = .ok (.imul, 1) := by decide +kernel
theorem dX12_remember_73 : decode cX12_remember 73 = .ok (.iload_n 1, 1) := by decide +kernel
theorem dX12_remember_74 : decode cX12_remember 74 = .ok (.iadd, 1) := by decide +kernel
theorem dX12_remember_75 : decode cX12_remember 75 = .ok (.aload_n 0, 1) := by decide +kernel
theorem dX12_remember_76 : decode cX12_remember 76 = .ok (.getfield 7, 3) := by decide +kernel
theorem dX12_remember_79 : decode cX12_remember 79 = .ok (.iload_n 1, 1) := by decide +kernel
theorem dX12_remember_80 : decode cX12_remember 80 = .ok (.iaload, 1) := by decide +kernel
theorem dX12_remember_81 : decode cX12_remember 81 = .ok (.iastore, 1) := by decide +kernel
theorem dX12_remember_82 : decode cX12_remember 82 = .ok (.iinc 1 1, 3) := by decide +kernel
theorem dX12_remember_85 : decode cX12_remember 85 = .ok (.goto (-31), 3) := by decide +kernel
theorem dX12_remember_88 : decode cX12_remember 88 = .ok (.aload_n 0, 1) := by decide +kernel
theorem dX12_remember_89 : decode cX12_remember 89 = .ok (.dup, 1) := by decide +kernel
theorem dX12_remember_90 : decode cX12_remember 90 = .ok (.getfield 86, 3) := by decide +kernel
theorem dX12_remember_93 : decode cX12_remember 93 = .ok (.iconst 1, 1) := by decide +kernel
theorem dX12_remember_94 : decode cX12_remember 94 = .ok (.iadd, 1) := by decide +kernel
theorem dX12_remember_95 : decode cX12_remember 95 = .ok (.putfield 86, 3) := by decide +kernel
theorem dX12_remember_98 : decode cX12_remember 98 = .ok (.return_, 1) := by decide +kernel
theorem dX12_undo_0 : decode cX12_undo 0 = .ok (.aload_n 0, 1) := by decide +kernel
theorem dX12_undo_1 : decode cX12_undo 1 = .ok (.iconst 0, 1) := by decide +kernel
theorem dX12_undo_2 : decode cX12_undo 2 = .ok (.putfield 83, 3) := by decide +kernel
theorem dX12_undo_5 : decode cX12_undo 5 = .ok (.aload_n 0, 1) := by decide +kernel
theorem dX12_undo_6 : decode cX12_undo 6 = .ok (.getfield 86, 3) := by decide +kernel
theorem dX12_undo_9 : decode cX12_undo 9 = .ok (.ifCond .ne 5, 3) := by decide +kernel
theorem dX12_undo_12 : decode cX12_undo 12 = .ok (.iconst (-1), 1) := by decide +kernel
theorem dX12_undo_13 : decode cX12_undo 13 = .ok (.ireturn, 1) := by decide +kernel
theorem dX12_undo_14 : decode cX12_undo 14 = .ok (.aload_n 0, 1) := by decide +kernel
theorem dX12_undo_15 : decode cX12_undo 15 = .ok (.dup, 1) := by decide +kernel
theorem dX12_undo_16 : decode cX12_undo 16 = .ok (.getfield 86, 3) := by decide +kernel
theorem dX12_undo_19 : decode cX12_undo 19 = .ok (.iconst 1, 1) := by decide +kernel
theorem dX12_undo_20 : decode cX12_undo 20 = .ok (.isub, 1) := by decide +kernel
theorem dX12_undo_21 : decode cX12_undo 21 = .ok (.putfield 86, 3) := by decide +kernel
theorem dX12_undo_24 : decode cX12_undo 24 = .ok (.iconst 0, 1) := by decide +kernel
theorem dX12_undo_25 : decode cX12_undo 25 = .ok (.istore_n 1, 1) := by decide +kernel
theorem dX12_undo_26 : decode cX12_undo 26 = .ok (.iload_n 1, 1) := by decide +kernel
theorem dX12_undo_27 : decode cX12_undo 27 = .ok (.sipush 811, 3) := by decide +kernel
theorem dX12_undo_30 : decode cX12_undo 30 = .ok (.if_icmp .ge 30, 3) := by decide +kernel
theorem dX12_undo_33 : decode cX12_undo 33 = .ok (.aload_n 0, 1) := by decide +kernel
theorem dX12_undo_34 : decode cX12_undo 34 = .ok (.getfield 7, 3) := by decide +kernel
theorem dX12_undo_37 : decode cX12_undo 37 = .ok (.iload_n 1, 1) := by decide +kernel
theorem dX12_undo_38 : decode cX12_undo 38 = .ok (.aload_n 0, 1) := by decide +kernel
theorem dX12_undo_39 : decode cX12_undo 39 = .ok (.getfield 16, 3) := by decide +kernel
theorem dX12_undo_42 : decode cX12_undo 42 = .ok (.aload_n 0, 1) := by decide +kernel
theorem dX12_undo_43 : decode cX12_undo 43 = .ok (.getfield 86, 3) := by decide +kernel
theorem dX12_undo_46 : decode cX12_undo 46 = .ok (.sipush 811, 3) := by decide +kernel
theorem dX12_undo_49 : decode cX12_undo 49 = .ok (.imul, 1) := by decide +kernel
theorem dX12_undo_50 : decode cX12_undo 50 = .ok (.iload_n 1, 1) := by decide +kernel
theorem dX12_undo_51 : decode cX12_undo 51 = .ok (.iadd, 1) := by decide +kernel
theorem dX12_undo_52 : decode cX12_undo 52 = .ok (.iaload, 1) := by decide +kernel
theorem dX12_undo_53 : decode cX12_undo 53 = .ok (.iastore, 1) := by decide +kernel
theorem dX12_undo_54 : decode cX12_undo 54 = .ok (.iinc 1 1, 3) := by decide +kernel
theorem dX12_undo_57 : decode cX12_undo 57 = .ok (.goto (-31), 3) := by decide +kernel
theorem dX12_undo_60 : decode cX12_undo 60 = .ok (.aload_n 0, 1) := by decide +kernel
theorem dX12_undo_61 : decode cX12_undo 61 = .ok (.getfield 86, 3) := by decide +kernel
theorem dX12_undo_64 : decode cX12_undo 64 = .ok (.ireturn, 1) := by decide +kernel
theorem dX12_undoCount_0 : decode cX12_undoCount 0 = .ok (.aload_n 0, 1) := by decide +kernel
theorem dX12_undoCount_1 : decode cX12_undoCount 1 = .ok (.iconst 0, 1) := by decide +kernel
theorem dX12_undoCount_2 : decode cX12_undoCount 2 = .ok (.putfield 83, 3) := by decide +kernel
theorem dX12_undoCount_5 : decode cX12_undoCount 5 = .ok (.aload_n 0, 1) := by decide +kernel
theorem dX12_undoCount_6 : decode cX12_undoCount 6 = .ok (.getfield 86, 3) := by decide +kernel
theorem dX12_undoCount_9 : decode cX12_undoCount 9 = .ok (.ireturn, 1) := by decide +kernel
theorem dX12_append_0 : decode cX12_append 0 = .ok (.bipush 24, 2) := by decide +kernel
theorem dX12_append_2 : decode cX12_append 2 = .ok (.istore_n 2, 1) := by decide +kernel
theorem dX12_append_3 : decode cX12_append 3 = .ok (.iload_n 2, 1) := by decide +kernel
theorem dX12_append_4 : decode cX12_append 4 = .ok (.ifCond .lt 32, 3) := by decide +kernel
theorem dX12_append_7 : decode cX12_append 7 = .ok (.aload_n 0, 1) := by decide +kernel
theorem dX12_append_8 : decode cX12_append 8 = .ok (.getfield 19, 3) := by decide +kernel
theorem dX12_append_11 : decode cX12_append 11 = .ok (.aload_n 0, 1) := by decide +kernel
theorem dX12_append_12 : decode cX12_append 12 = .ok (.getfield 89, 3) := by decide +kernel
theorem dX12_append_15 : decode cX12_append 15 = .ok (.iload_n 1, 1) := by decide +kernel
theorem dX12_append_16 : decode cX12_append 16 = .ok (.iload_n 2, 1) := by decide +kernel
theorem dX12_append_17 : decode cX12_append 17 = .ok (.ishr, 1) := by decide +kernel
theorem dX12_append_18 : decode cX12_append 18 = .ok (.i2b, 1) := by decide +kernel
theorem dX12_append_19 : decode cX12_append 19 = .ok (.bastore, 1) := by decide +kernel
theorem dX12_append_20 : decode cX12_append 20 = .ok (.aload_n 0, 1) := by decide +kernel
theorem dX12_append_21 : decode cX12_append 21 = .ok (.dup, 1) := by decide +kernel
theorem dX12_append_22 : decode cX12_append 22 = .ok (.getfield 89, 3) := by decide +kernel
theorem dX12_append_25 : decode cX12_append 25 = .ok (.iconst 1, 1) := by decide +kernel
theorem dX12_append_26 : decode cX12_append 26 = .ok (.iadd, 1) := by decide +kernel
theorem dX12_append_27 : decode cX12_append 27 = .ok (.putfield 89, 3) := by decide +kernel
theorem dX12_append_30 : decode cX12_append 30 = .ok (.iinc 2 (-8), 3) := by decide +kernel
theorem dX12_append_33 : decode cX12_append 33 = .ok (.goto (-30), 3) := by decide +kernel
theorem dX12_append_36 : decode cX12_append 36 = .ok (.return_, 1) := by decide +kernel
theorem dX12_feed_0 : decode cX12_feed 0 = .ok (.aload_n 0, 1) := by decide +kernel
theorem dX12_feed_1 : decode cX12_feed 1 = .ok (.iconst 0, 1) := by decide +kernel
theorem dX12_feed_2 : decode cX12_feed 2 = .ok (.putfield 83, 3) := by decide +kernel
theorem dX12_feed_5 : decode cX12_feed 5 = .ok (.aload_n 0, 1) := by decide +kernel
theorem dX12_feed_6 : decode cX12_feed 6 = .ok (.getfield 89, 3) := by decide +kernel
theorem dX12_feed_9 : decode cX12_feed 9 = .ok (.bipush 20, 2) := by decide +kernel
theorem dX12_feed_11 : decode cX12_feed 11 = .ok (.iadd, 1) := by decide +kernel
theorem dX12_feed_12 : decode cX12_feed 12 = .ok (.sipush 1400, 3) := by decide +kernel
theorem dX12_feed_15 : decode cX12_feed 15 = .ok (.if_icmp .le 6, 3) := by decide +kernel
theorem dX12_feed_18 : decode cX12_feed 18 = .ok (.bipush (-3), 2) := by decide +kernel
theorem dX12_feed_20 : decode cX12_feed 20 = .ok (.ireturn, 1) := by decide +kernel
theorem dX12_feed_21 : decode cX12_feed 21 = .ok (.aload_n 0, 1) := by decide +kernel
theorem dX12_feed_22 : decode cX12_feed 22 = .ok (.iload_n 1, 1) := by decide +kernel
theorem dX12_feed_23 : decode cX12_feed 23 = .ok (.invokevirtual 92, 3) := by decide +kernel
theorem dX12_feed_26 : decode cX12_feed 26 = .ok (.aload_n 0, 1) := by decide +kernel
theorem dX12_feed_27 : decode cX12_feed 27 = .ok (.iload_n 2, 1) := by decide +kernel
theorem dX12_feed_28 : decode cX12_feed 28 = .ok (.invokevirtual 92, 3) := by decide +kernel
theorem dX12_feed_31 : decode cX12_feed 31 = .ok (.aload_n 0, 1) := by decide +kernel
theorem dX12_feed_32 : decode cX12_feed 32 = .ok (.iload_n 3, 1) := by decide +kernel
theorem dX12_feed_33 : decode cX12_feed 33 = .ok (.invokevirtual 92, 3) := by decide +kernel
theorem dX12_feed_36 : decode cX12_feed 36 = .ok (.aload_n 0, 1) := by decide +kernel
theorem dX12_feed_37 : decode cX12_feed 37 = .ok (.iload 4, 2) := by decide +kernel
theorem dX12_feed_39 : decode cX12_feed 39 = .ok (.invokevirtual 92, 3) := by decide +kernel
theorem dX12_feed_42 : decode cX12_feed 42 = .ok (.aload_n 0, 1) := by decide +kernel
theorem dX12_feed_43 : decode cX12_feed 43 = .ok (.iload 5, 2) := by decide +kernel
theorem dX12_feed_45 : decode cX12_feed 45 = .ok (.invokevirtual 92, 3) := by decide +kernel
theorem dX12_feed_48 : decode cX12_feed 48 = .ok (.aload_n 0, 1) := by decide +kernel
theorem dX12_feed_49 : decode cX12_feed 49 = .ok (.getfield 89, 3) := by decide +kernel
theorem dX12_feed_52 : decode cX12_feed 52 = .ok (.ireturn, 1) := by decide +kernel
theorem dX12_errorPosition_0 : decode cX12_errorPosition 0 = .ok (.aload_n 0, 1) := by decide +kernel
theorem dX12_errorPosition_1 : decode cX12_errorPosition 1 = .ok (.iconst 0, 1) := by decide +kernel
theorem dX12_errorPosition_2 : decode cX12_errorPosition 2 = .ok (.putfield 83, 3) := by decide +kernel
theorem dX12_errorPosition_5 : decode cX12_errorPosition 5 = .ok (.aload_n 0, 1) := by decide +kernel
theorem dX12_errorPosition_6 : decode cX12_errorPosition 6 = .ok (.getfield 23, 3) := by decide +kernel
theorem dX12_errorPosition_9 : decode cX12_errorPosition 9 = .ok (.ireturn, 1) := by decide +kernel
theorem dX12_peek_0 : decode cX12_peek 0 = .ok (.aload_n 0, 1) := by decide +kernel
theorem dX12_peek_1 : decode cX12_peek 1 = .ok (.getfield 96, 3) := by decide +kernel
theorem dX12_peek_4 : decode cX12_peek 4 = .ok (.aload_n 0, 1) := by decide +kernel
theorem dX12_peek_5 : decode cX12_peek 5 = .ok (.getfield 99, 3) := by decide +kernel
theorem dX12_peek_8 : decode cX12_peek 8 = .ok (.if_icmp .ge 19, 3) := by decide +kernel
theorem dX12_peek_11 : decode cX12_peek 11 = .ok (.aload_n 0, 1) := by decide +kernel
theorem dX12_peek_12 : decode cX12_peek 12 = .ok (.getfield 19, 3) := by decide +kernel
theorem dX12_peek_15 : decode cX12_peek 15 = .ok (.aload_n 0, 1) := by decide +kernel
theorem dX12_peek_16 : decode cX12_peek 16 = .ok (.getfield 96, 3) := by decide +kernel
theorem dX12_peek_19 : decode cX12_peek 19 = .ok (.baload, 1) := by decide +kernel
theorem dX12_peek_20 : decode cX12_peek 20 = .ok (.sipush 255, 3) := by decide +kernel
theorem dX12_peek_23 : decode cX12_peek 23 = .ok (.iand, 1) := by decide +kernel
theorem dX12_peek_24 : decode cX12_peek 24 = .ok (.goto 4, 3) := by decide +kernel
theorem dX12_peek_27 : decode cX12_peek 27 = .ok (.iconst (-1), 1) := by decide +kernel
theorem dX12_peek_28 : decode cX12_peek 28 = .ok (.ireturn, 1) := by decide +kernel
theorem dX12_advance_0 : decode cX12_advance 0 = .ok (.aload_n 0, 1) := by decide +kernel
theorem dX12_advance_1 : decode cX12_advance 1 = .ok (.invokevirtual 102, 3) := by decide +kernel
theorem dX12_advance_4 : decode cX12_advance 4 = .ok (.bipush 32, 2) := by decide +kernel
theorem dX12_advance_6 : decode cX12_advance 6 = .ok (.if_icmp .eq 12, 3) := by decide +kernel
theorem dX12_advance_9 : decode cX12_advance 9 = .ok (.aload_n 0, 1) := by decide +kernel
theorem dX12_advance_10 : decode cX12_advance 10 = .ok (.invokevirtual 102, 3) := by decide +kernel
theorem dX12_advance_13 : decode cX12_advance 13 = .ok (.bipush 10, 2) := by decide +kernel
theorem dX12_advance_15 : decode cX12_advance 15 = .ok (.if_icmp .ne 16, 3) := by decide +kernel
theorem dX12_advance_18 : decode cX12_advance 18 = .ok (.aload_n 0, 1) := by decide +kernel
theorem dX12_advance_19 : decode cX12_advance 19 = .ok (.dup, 1) := by decide +kernel
theorem dX12_advance_20 : decode cX12_advance 20 = .ok (.getfield 96, 3) := by decide +kernel
theorem dX12_advance_23 : decode cX12_advance 23 = .ok (.iconst 1, 1) := by decide +kernel
theorem dX12_advance_24 : decode cX12_advance 24 = .ok (.iadd, 1) := by decide +kernel
theorem dX12_advance_25 : decode cX12_advance 25 = .ok (.putfield 96, 3) := by decide +kernel
theorem dX12_advance_28 : decode cX12_advance 28 = .ok (.goto (-28), 3) := by decide +kernel
theorem dX12_advance_31 : decode cX12_advance 31 = .ok (.aload_n 0, 1) := by decide +kernel
theorem dX12_advance_32 : decode cX12_advance 32 = .ok (.aload_n 0, 1) := by decide +kernel
theorem dX12_advance_33 : decode cX12_advance 33 = .ok (.getfield 96, 3) := by decide +kernel
theorem dX12_advance_36 : decode cX12_advance 36 = .ok (.putfield 106, 3) := by decide +kernel
theorem dX12_advance_39 : decode cX12_advance 39 = .ok (.aload_n 0, 1) := by decide +kernel
theorem dX12_advance_40 : decode cX12_advance 40 = .ok (.lconst 0, 1) := by decide +kernel
theorem dX12_advance_41 : decode cX12_advance 41 = .ok (.putfield 109, 3) := by decide +kernel
theorem dX12_advance_44 : decode cX12_advance 44 = .ok (.aload_n 0, 1) := by decide +kernel
theorem dX12_advance_45 : decode cX12_advance 45 = .ok (.iconst 0, 1) := by decide +kernel
theorem dX12_advance_46 : decode cX12_advance 46 = .ok (.putfield 113, 3) := by decide +kernel
theorem dX12_advance_49 : decode cX12_advance 49 = .ok (.aload_n 0, 1) := by decide +kernel
theorem dX12_advance_50 : decode cX12_advance 50 = .ok (.invokevirtual 102, 3) := by decide +kernel
theorem dX12_advance_53 : decode cX12_advance 53 = .ok (.istore_n 1, 1) := by decide +kernel
theorem dX12_advance_54 : decode cX12_advance 54 = .ok (.iload_n 1, 1) := by decide +kernel
theorem dX12_advance_55 : decode cX12_advance 55 = .ok (.ifCond .ge 11, 3) := by decide +kernel
theorem dX12_advance_58 : decode cX12_advance 58 = .ok (.aload_n 0, 1) := by decide +kernel
theorem dX12_advance_59 : decode cX12_advance 59 = .ok (.iconst 0, 1) := by decide +kernel
theorem dX12_advance_60 : decode cX12_advance 60 = .ok (.putfield 116, 3) := by decide +kernel
theorem dX12_advance_63 : decode cX12_advance 63 = .ok (.goto 206, 3) := by decide +kernel
theorem dX12_advance_66 : decode cX12_advance 66 = .ok (.iload_n 1, 1) := by decide +kernel
theorem dX12_advance_67 : decode cX12_advance 67 = .ok (.bipush 97, 2) := by decide +kernel
theorem dX12_advance_69 : decode cX12_advance 69 = .ok (.bipush 122, 2) := by decide +kernel
theorem dX12_advance_71 : decode cX12_advance 71 = .ok (.invokestatic 119, 3) := by decide +kernel
theorem dX12_advance_74 : decode cX12_advance 74 = .ok (.ifCond .eq 94, 3) := by decide +kernel
theorem dX12_advance_77 : decode cX12_advance 77 = .ok (.aload_n 0, 1) := by decide +kernel
theorem dX12_advance_78 : decode cX12_advance 78 = .ok (.iconst 1, 1) := by decide +kernel
theorem dX12_advance_79 : decode cX12_advance 79 = .ok (.putfield 116, 3) := by decide +kernel
theorem dX12_advance_82 : decode cX12_advance 82 = .ok (.aload_n 0, 1) := by decide +kernel
theorem dX12_advance_83 : decode cX12_advance 83 = .ok (.invokevirtual 102, 3) := by decide +kernel
theorem dX12_advance_86 : decode cX12_advance 86 = .ok (.bipush 97, 2) := by decide +kernel
theorem dX12_advance_88 : decode cX12_advance 88 = .ok (.bipush 122, 2) := by decide +kernel
theorem dX12_advance_90 : decode cX12_advance 90 = .ok (.invokestatic 119, 3) := by decide +kernel
theorem dX12_advance_93 : decode cX12_advance 93 = .ok (.ifCond .eq 53, 3) := by decide +kernel
theorem dX12_advance_96 : decode cX12_advance 96 = .ok (.aload_n 0, 1) := by decide +kernel
theorem dX12_advance_97 : decode cX12_advance 97 = .ok (.aload_n 0, 1) := by decide +kernel
theorem dX12_advance_98 : decode cX12_advance 98 = .ok (.getfield 96, 3) := by decide +kernel
theorem dX12_advance_101 : decode cX12_advance 101 = .ok (.aload_n 0, 1) := by decide +kernel
theorem dX12_advance_102 : decode cX12_advance 102 = .ok (.getfield 106, 3) := by decide +kernel
theorem dX12_advance_105 : decode cX12_advance 105 = .ok (.isub, 1) := by decide +kernel
theorem dX12_advance_106 : decode cX12_advance 106 = .ok (.bipush 12, 2) := by decide +kernel
theorem dX12_advance_108 : decode cX12_advance 108 = .ok (.if_icmp .ge 21, 3) := by decide +kernel
theorem dX12_advance_111 : decode cX12_advance 111 = .ok (.aload_n 0, 1) := by decide +kernel
theorem dX12_advance_112 : decode cX12_advance 112 = .ok (.getfield 109, 3) := by decide +kernel
theorem dX12_advance_115 : decode cX12_advance 115 = .ok (.iconst 5, 1) := by decide +kernel
theorem dX12_advance_116 : decode cX12_advance 116 = .ok (.lshl, 1) := by decide +kernel
theorem dX12_advance_117 : decode cX12_advance 117 = .ok (.aload_n 0, 1) := by decide +kernel
theorem dX12_advance_118 : decode cX12_advance 118 = .ok (.invokevirtual 102, 3) := by decide +kernel
theorem dX12_advance_121 : decode cX12_advance 121 = .ok (.bipush 96, 2) := by decide +kernel
theorem dX12_advance_123 : decode cX12_advance 123 = .ok (.isub, 1) := by decide +kernel
theorem dX12_advance_124 : decode cX12_advance 124 = .ok (.i2l, 1) := by decide +kernel
theorem dX12_advance_125 : decode cX12_advance 125 = .ok (.lor, 1) := by decide +kernel
theorem dX12_advance_126 : decode cX12_advance 126 = .ok (.goto 4, 3) := by decide +kernel
theorem dX12_advance_129 : decode cX12_advance 129 = .ok (.lconst 0, 1) := by decide +kernel
theorem dX12_advance_130 : decode cX12_advance 130 = .ok (.putfield 109, 3) := by decide +kernel
theorem dX12_advance_133 : decode cX12_advance 133 = .ok (.aload_n 0, 1) := by decide +kernel
theorem dX12_advance_134 : decode cX12_advance 134 = .ok (.dup, 1) := by decide +kernel
theorem dX12_advance_135 : decode cX12_advance 135 = .ok (.getfield 96, 3) := by decide +kernel
theorem dX12_advance_138 : decode cX12_advance 138 = .ok (.iconst 1, 1) := by decide +kernel
theorem dX12_advance_139 : decode cX12_advance 139 = .ok (.iadd, 1) := by decide +kernel
theorem dX12_advance_140 : decode cX12_advance 140 = .ok (.putfield 96, 3) := by decide +kernel
theorem dX12_advance_143 : decode cX12_advance 143 = .ok (.goto (-61), 3) := by decide +kernel
theorem dX12_advance_146 : decode cX12_advance 146 = .ok (.aload_n 0, 1) := by decide +kernel
theorem dX12_advance_147 : decode cX12_advance 147 = .ok (.getfield 96, 3) := by decide +kernel
theorem dX12_advance_150 : decode cX12_advance 150 = .ok (.aload_n 0, 1) := by decide +kernel
theorem dX12_advance_151 : decode cX12_advance 151 = .ok (.getfield 106, 3) := by decide +kernel
theorem dX12_advance_154 : decode cX12_advance 154 = .ok (.isub, 1) := by decide +kernel
theorem dX12_advance_155 : decode cX12_advance 155 = .ok (.bipush 12, 2) := by decide +kernel
theorem dX12_advance_157 : decode cX12_advance 157 = .ok (.if_icmp .le 112, 3) := by decide +kernel
theorem dX12_advance_160 : decode cX12_advance 160 = .ok (.aload_n 0, 1) := by decide +kernel
theorem dX12_advance_161 : decode cX12_advance 161 = .ok (.lconst 0, 1) := by decide +kernel
theorem dX12_advance_162 : decode cX12_advance 162 = .ok (.putfield 109, 3) := by decide +kernel
theorem dX12_advance_165 : decode cX12_advance 165 = .ok (.goto 104, 3) := by decide +kernel
theorem dX12_advance_168 : decode cX12_advance 168 = .ok (.iload_n 1, 1) := by decide +kernel
theorem dX12_advance_169 : decode cX12_advance 169 = .ok (.bipush 48, 2) := by decide +kernel
theorem dX12_advance_171 : decode cX12_advance 171 = .ok (.bipush 57, 2) := by decide +kernel
theorem dX12_advance_173 : decode cX12_advance 173 = .ok (.invokestatic 119, 3) := by decide +kernel
theorem dX12_advance_176 : decode cX12_advance 176 = .ok (.ifCond .eq 68, 3) := by decide +kernel
theorem dX12_advance_179 : decode cX12_advance 179 = .ok (.aload_n 0, 1) := by decide +kernel
theorem dX12_advance_180 : decode cX12_advance 180 = .ok (.iconst 2, 1) := by decide +kernel
theorem dX12_advance_181 : decode cX12_advance 181 = .ok (.putfield 116, 3) := by decide +kernel
theorem dX12_advance_184 : decode cX12_advance 184 = .ok (.aload_n 0, 1) := by decide +kernel
theorem dX12_advance_185 : decode cX12_advance 185 = .ok (.invokevirtual 102, 3) := by decide +kernel
theorem dX12_advance_188 : decode cX12_advance 188 = .ok (.bipush 48, 2) := by decide +kernel
theorem dX12_advance_190 : decode cX12_advance 190 = .ok (.bipush 57, 2) := by decide +kernel
theorem dX12_advance_192 : decode cX12_advance 192 = .ok (.invokestatic 119, 3) := by decide +kernel
theorem dX12_advance_195 : decode cX12_advance 195 = .ok (.ifCond .eq 74, 3) := by decide +kernel
theorem dX12_advance_198 : decode cX12_advance 198 = .ok (.aload_n 0, 1) := by decide +kernel
theorem dX12_advance_199 : decode cX12_advance 199 = .ok (.aload_n 0, 1) := by decide +kernel
theorem dX12_advance_200 : decode cX12_advance 200 = .ok (.getfield 113, 3) := by decide +kernel
theorem dX12_advance_203 : decode cX12_advance 203 = .ok (.ldc 123, 2) := by decide +kernel
theorem dX12_advance_205 : decode cX12_advance 205 = .ok (.if_icmp .le 8, 3) := by decide +kernel
theorem dX12_advance_208 : decode cX12_advance 208 = .ok (.ldc 124, 2) := by decide +kernel
theorem dX12_advance_210 : decode cX12_advance 210 = .ok (.goto 18, 3) := by decide +kernel
theorem dX12_advance_213 : decode cX12_advance 213 = .ok (.bipush 10, 2) := by decide +kernel
theorem dX12_advance_215 : decode cX12_advance 215 = .ok (.aload_n 0, 1) := by decide +kernel
theorem dX12_advance_216 : decode cX12_advance 216 = .ok (.getfield 113, 3) := by decide +kernel
theorem dX12_advance_219 : decode cX12_advance 219 = .ok (.imul, 1) := by decide +kernel
theorem dX12_advance_220 : decode cX12_advance 220 = .ok (.aload_n 0, 1) := by decide +kernel
theorem dX12_advance_221 : decode cX12_advance 221 = .ok (.invokevirtual 102, 3) := by decide +kernel
theorem dX12_advance_224 : decode cX12_advance 224 = .ok (.iadd, 1) := by decide +kernel
theorem dX12_advance_225 : decode cX12_advance 225 = .ok (.bipush 48, 2) := by decide +kernel
theorem dX12_advance_227 : decode cX12_advance 227 = .ok (.isub, 1) := by decide +kernel
theorem dX12_advance_228 : decode cX12_advance 228 = .ok (.putfield 113, 3) := by decide +kernel
theorem dX12_advance_231 : decode cX12_advance 231 = .ok (.aload_n 0, 1) := by decide +kernel
theorem dX12_advance_232 : decode cX12_advance 232 = .ok (.dup, 1) := by decide +kernel
theorem dX12_advance_233 : decode cX12_advance 233 = .ok (.getfield 96, 3) := by decide +kernel
theorem dX12_advance_236 : decode cX12_advance 236 = .ok (.iconst 1, 1) := by decide +kernel
theorem dX12_advance_237 : decode cX12_advance 237 = .ok (.iadd, 1) := by decide +kernel
theorem dX12_advance_238 : decode cX12_advance 238 = .ok (.putfield 96, 3) := by decide +kernel
theorem dX12_advance_241 : decode cX12_advance 241 = .ok (.goto (-57), 3) := by decide +kernel
theorem dX12_advance_244 : decode cX12_advance 244 = .ok (.aload_n 0, 1) := by decide +kernel
theorem dX12_advance_245 : decode cX12_advance 245 = .ok (.iload_n 1, 1) := by decide +kernel
theorem dX12_advance_246 : decode cX12_advance 246 = .ok (.bipush 59, 2) := by decide +kernel
theorem dX12_advance_248 : decode cX12_advance 248 = .ok (.if_icmp .ne 7, 3) := by decide +kernel
theorem dX12_advance_251 : decode cX12_advance 251 = .ok (.iconst 3, 1) := by decide +kernel
theorem dX12_advance_252 : decode cX12_advance 252 = .ok (.goto 4, 3) := by decide +kernel
theorem dX12_advance_255 : decode cX12_advance 255 = .ok (.iconst 4, 1) := by decide +kernel
theorem dX12_advance_256 : decode cX12_advance 256 = .ok (.putfield 116, 3) := by decide +kernel
theorem dX12_advance_259 : decode cX12_advance 259 = .ok (.aload_n 0, 1) := by decide +kernel
theorem dX12_advance_260 : decode cX12_advance 260 = .ok (.dup, 1) := by decide +kernel
theorem dX12_advance_261 : decode cX12_advance 261 = .ok (.getfield 96, 3) := by decide +kernel
theorem dX12_advance_264 : decode cX12_advance 264 = .ok (.iconst 1, 1) := by decide +kernel
theorem dX12_advance_265 : decode cX12_advance 265 = .ok (.iadd, 1) := by decide +kernel
theorem dX12_advance_266 : decode cX12_advance 266 = .ok (.putfield 96, 3) := by decide +kernel
theorem dX12_advance_269 : decode cX12_advance 269 = .ok (.return_, 1) := by decide +kernel
theorem dX12_check_0 : decode cX12_check 0 = .ok (.iload_n 1, 1) := by decide +kernel
theorem dX12_check_1 : decode cX12_check 1 = .ok (.ifCond .ne 10, 3) := by decide +kernel
theorem dX12_check_4 : decode cX12_check 4 = .ok (.aload_n 0, 1) := by decide +kernel
theorem dX12_check_5 : decode cX12_check 5 = .ok (.getfield 125, 3) := by decide +kernel
theorem dX12_check_8 : decode cX12_check 8 = .ok (.ifCond .eq 4, 3) := by decide +kernel
theorem dX12_check_11 : decode cX12_check 11 = .ok (.return_, 1) := by decide +kernel
theorem dX12_check_12 : decode cX12_check 12 = .ok (.aload_n 0, 1) := by decide +kernel
theorem dX12_check_13 : decode cX12_check 13 = .ok (.iload_n 2, 1) := by decide +kernel
theorem dX12_check_14 : decode cX12_check 14 = .ok (.putfield 125, 3) := by decide +kernel
theorem dX12_check_17 : decode cX12_check 17 = .ok (.aload_n 0, 1) := by decide +kernel
theorem dX12_check_18 : decode cX12_check 18 = .ok (.aload_n 0, 1) := by decide +kernel
theorem dX12_check_19 : decode cX12_check 19 = .ok (.getfield 106, 3) := by decide +kernel
theorem dX12_check_22 : decode cX12_check 22 = .ok (.putfield 23, 3) := by decide +kernel
theorem dX12_check_25 : decode cX12_check 25 = .ok (.return_, 1) := by decide +kernel
theorem dX12_advanceIfGood_0 : decode cX12_advanceIfGood 0 = .ok (.aload_n 0, 1) := by decide +kernel
theorem dX12_advanceIfGood_1 : decode cX12_advanceIfGood 1 = .ok (.getfield 125, 3) := by decide +kernel
theorem dX12_advanceIfGood_4 : decode cX12_advanceIfGood 4 = .ok (.ifCond .ne 7, 3) := by decide +kernel
theorem dX12_advanceIfGood_7 : decode cX12_advanceIfGood 7 = .ok (.aload_n 0, 1) := by decide +kernel
theorem dX12_advanceIfGood_8 : decode cX12_advanceIfGood 8 = .ok (.invokevirtual 128, 3) := by decide +kernel
theorem dX12_advanceIfGood_11 : decode cX12_advanceIfGood 11 = .ok (.return_, 1) := by decide +kernel
theorem dX12_isWord_0 : decode cX12_isWord 0 = .ok (.aload_n 0, 1) := by decide +kernel
theorem dX12_isWord_1 : decode cX12_isWord 1 = .ok (.getfield 125, 3) := by decide +kernel
theorem dX12_isWord_4 : decode cX12_isWord 4 = .ok (.ifCond .ne 24, 3) := by decide +kernel
theorem dX12_isWord_7 : decode cX12_isWord 7 = .ok (.aload_n 0, 1) := by decide +kernel
theorem dX12_isWord_8 : decode cX12_isWord 8 = .ok (.getfield 116, 3) := by decide +kernel
theorem dX12_isWord_11 : decode cX12_isWord 11 = .ok (.iconst 1, 1) := by decide +kernel
theorem dX12_isWord_12 : decode cX12_isWord 12 = .ok (.if_icmp .ne 16, 3) := by decide +kernel
theorem dX12_isWord_15 : decode cX12_isWord 15 = .ok (.aload_n 0, 1) := by decide +kernel
theorem dX12_isWord_16 : decode cX12_isWord 16 = .ok (.getfield 109, 3) := by decide +kernel
theorem dX12_isWord_19 : decode cX12_isWord 19 = .ok (.lload_n 1, 1) := by decide +kernel
theorem dX12_isWord_20 : decode cX12_isWord 20 = .ok (.lcmp, 1) := by decide +kernel
theorem dX12_isWord_21 : decode cX12_isWord 21 = .ok (.ifCond .ne 7, 3) := by decide +kernel
theorem dX12_isWord_24 : decode cX12_isWord 24 = .ok (.iconst 1, 1) := by decide +kernel
theorem dX12_isWord_25 : decode cX12_isWord 25 = .ok (.goto 4, 3) := by decide +kernel
theorem dX12_isWord_28 : decode cX12_isWord 28 = .ok (.iconst 0, 1) := by decide +kernel
theorem dX12_isWord_29 : decode cX12_isWord 29 = .ok (.ireturn, 1) := by decide +kernel
theorem dX12_readInteger_0 : decode cX12_readInteger 0 = .ok (.aload_n 0, 1) := by decide +kernel
theorem dX12_readInteger_1 : decode cX12_readInteger 1 = .ok (.aload_n 0, 1) := by decide +kernel
theorem dX12_readInteger_2 : decode cX12_readInteger 2 = .ok (.getfield 116, 3) := by decide +kernel
theorem dX12_readInteger_5 : decode cX12_readInteger 5 = .ok (.iconst 2, 1) := by decide +kernel
theorem dX12_readInteger_6 : decode cX12_readInteger 6 = .ok (.if_icmp .ne 7, 3) := by decide +kernel
theorem dX12_readInteger_9 : decode cX12_readInteger 9 = .ok (.iconst 1, 1) := by decide +kernel
theorem dX12_readInteger_10 : decode cX12_readInteger 10 = .ok (.goto 4, 3) := by decide +kernel
theorem dX12_readInteger_13 : decode cX12_readInteger 13 = .ok (.iconst 0, 1) := by decide +kernel
theorem dX12_readInteger_14 : decode cX12_readInteger 14 = .ok (.bipush (-11), 2) := by decide +kernel
theorem dX12_readInteger_16 : decode cX12_readInteger 16 = .ok (.invokevirtual 131, 3) := by decide +kernel
theorem dX12_readInteger_19 : decode cX12_readInteger 19 = .ok (.aload_n 0, 1) := by decide +kernel
theorem dX12_readInteger_20 : decode cX12_readInteger 20 = .ok (.aload_n 0, 1) := by decide +kernel
theorem dX12_readInteger_21 : decode cX12_readInteger 21 = .ok (.getfield 113, 3) := by decide +kernel
theorem dX12_readInteger_24 : decode cX12_readInteger 24 = .ok (.iload_n 1, 1) := by decide +kernel
theorem dX12_readInteger_25 : decode cX12_readInteger 25 = .ok (.iload_n 2, 1) := by decide +kernel
theorem dX12_readInteger_26 : decode cX12_readInteger 26 = .ok (.invokestatic 119, 3) := by decide +kernel
theorem dX12_readInteger_29 : decode cX12_readInteger 29 = .ok (.bipush (-12), 2) := by decide +kernel
theorem dX12_readInteger_31 : decode cX12_readInteger 31 = .ok (.invokevirtual 131, 3) := by decide +kernel
theorem dX12_readInteger_34 : decode cX12_readInteger 34 = .ok (.aload_n 0, 1) := by decide +kernel
theorem dX12_readInteger_35 : decode cX12_readInteger 35 = .ok (.getfield 113, 3) := by decide +kernel
theorem dX12_readInteger_38 : decode cX12_readInteger 38 = .ok (.istore_n 3, 1) := by decide +kernel
theorem dX12_readInteger_39 : decode cX12_readInteger 39 = .ok (.aload_n 0, 1) := by decide +kernel
theorem dX12_readInteger_40 : decode cX12_readInteger 40 = .ok (.invokevirtual 135, 3) := by decide +kernel
theorem dX12_readInteger_43 : decode cX12_readInteger 43 = .ok (.iload_n 3, 1) := by decide +kernel
theorem dX12_readInteger_44 : decode cX12_readInteger 44 = .ok (.ireturn, 1) := by decide +kernel
theorem dX12_parseSize_0 : decode cX12_parseSize 0 = .ok (.aload_n 0, 1) := by decide +kernel
theorem dX12_parseSize_1 : decode cX12_parseSize 1 = .ok (.aload_n 0, 1) := by decide +kernel
theorem dX12_parseSize_2 : decode cX12_parseSize 2 = .ok (.getfield 138, 3) := by decide +kernel
theorem dX12_parseSize_5 : decode cX12_parseSize 5 = .ok (.ifCond .ne 7, 3) := by decide +kernel
theorem dX12_parseSize_8 : decode cX12_parseSize 8 = .ok (.iconst 1, 1) := by decide +kernel
theorem dX12_parseSize_9 : decode cX12_parseSize 9 = .ok (.goto 4, 3) := by decide +kernel
theorem dX12_parseSize_12 : decode cX12_parseSize 12 = .ok (.iconst 0, 1) := by decide +kernel
theorem dX12_parseSize_13 : decode cX12_parseSize 13 = .ok (.bipush (-14), 2) := by decide +kernel
theorem dX12_parseSize_15 : decode cX12_parseSize 15 = .ok (.invokevirtual 131, 3) := by decide +kernel
theorem dX12_parseSize_18 : decode cX12_parseSize 18 = .ok (.aload_n 0, 1) := by decide +kernel
theorem dX12_parseSize_19 : decode cX12_parseSize 19 = .ok (.invokevirtual 135, 3) := by decide +kernel
theorem dX12_parseSize_22 : decode cX12_parseSize 22 = .ok (.aload_n 0, 1) := by decide +kernel
theorem dX12_parseSize_23 : decode cX12_parseSize 23 = .ok (.getfield 13, 3) := by decide +kernel
theorem dX12_parseSize_26 : decode cX12_parseSize 26 = .ok (.iconst 0, 1) := by decide +kernel
theorem dX12_parseSize_27 : decode cX12_parseSize 27 = .ok (.aload_n 0, 1) := by decide +kernel
theorem dX12_parseSize_28 : decode cX12_parseSize 28 = .ok (.iconst 4, 1) := by decide +kernel
theorem dX12_parseSize_29 : decode cX12_parseSize 29 = .ok (.bipush 12, 2) := by decide +kernel
theorem dX12_parseSize_31 : decode cX12_parseSize 31 = .ok (.invokevirtual 141, 3) := by decide +kernel
theorem dX12_parseSize_34 : decode cX12_parseSize 34 = .ok (.iastore, 1) := by decide +kernel
theorem dX12_parseSize_35 : decode cX12_parseSize 35 = .ok (.aload_n 0, 1) := by decide +kernel
theorem dX12_parseSize_36 : decode cX12_parseSize 36 = .ok (.getfield 13, 3) := by decide +kernel
theorem dX12_parseSize_39 : decode cX12_parseSize 39 = .ok (.iconst 1, 1) := by decide +kernel
theorem dX12_parseSize_40 : decode cX12_parseSize 40 = .ok (.aload_n 0, 1) := by decide +kernel
theorem dX12_parseSize_41 : decode cX12_parseSize 41 = .ok (.iconst 4, 1) := by decide +kernel
theorem dX12_parseSize_42 : decode cX12_parseSize 42 = .ok (.bipush 10, 2) := by decide +kernel
theorem dX12_parseSize_44 : decode cX12_parseSize 44 = .ok (.invokevirtual 141, 3) := by decide +kernel
theorem dX12_parseSize_47 : decode cX12_parseSize 47 = .ok (.iastore, 1) := by decide +kernel
theorem dX12_parseSize_48 : decode cX12_parseSize 48 = .ok (.return_, 1) := by decide +kernel
theorem dX12_parseRow_0 : decode cX12_parseRow 0 = .ok (.aload_n 0, 1) := by decide +kernel
theorem dX12_parseRow_1 : decode cX12_parseRow 1 = .ok (.aload_n 0, 1) := by decide +kernel
theorem dX12_parseRow_2 : decode cX12_parseRow 2 = .ok (.getfield 116, 3) := by decide +kernel
theorem dX12_parseRow_5 : decode cX12_parseRow 5 = .ok (.iconst 2, 1) := by decide +kernel
theorem dX12_parseRow_6 : decode cX12_parseRow 6 = .ok (.if_icmp .ne 7, 3) := by decide +kernel
theorem dX12_parseRow_9 : decode cX12_parseRow 9 = .ok (.iconst 1, 1) := by decide +kernel
theorem dX12_parseRow_10 : decode cX12_parseRow 10 = .ok (.goto 4, 3) := by decide +kernel
theorem dX12_parseRow_13 : decode cX12_parseRow 13 = .ok (.iconst 0, 1) := by decide +kernel
theorem dX12_parseRow_14 : decode cX12_parseRow 14 = .ok (.bipush (-11), 2) := by decide +kernel
theorem dX12_parseRow_16 : decode cX12_parseRow 16 = .ok (.invokevirtual 131, 3) := by decide +kernel
theorem dX12_parseRow_19 : decode cX12_parseRow 19 = .ok (.aload_n 0, 1) := by decide +kernel
theorem dX12_parseRow_20 : decode cX12_parseRow 20 = .ok (.aload_n 0, 1) := by decide +kernel
theorem dX12_parseRow_21 : decode cX12_parseRow 21 = .ok (.getfield 96, 3) := by decide +kernel
theorem dX12_parseRow_24 : decode cX12_parseRow 24 = .ok (.aload_n 0, 1) := by decide +kernel
theorem dX12_parseRow_25 : decode cX12_parseRow 25 = .ok (.getfield 106, 3) := by decide +kernel
theorem dX12_parseRow_28 : decode cX12_parseRow 28 = .ok (.isub, 1) := by decide +kernel
theorem dX12_parseRow_29 : decode cX12_parseRow 29 = .ok (.aload_n 0, 1) := by decide +kernel
theorem dX12_parseRow_30 : decode cX12_parseRow 30 = .ok (.getfield 13, 3) := by decide +kernel
theorem dX12_parseRow_33 : decode cX12_parseRow 33 = .ok (.iconst 0, 1) := by decide +kernel
theorem dX12_parseRow_34 : decode cX12_parseRow 34 = .ok (.iaload, 1) := by decide +kernel
theorem dX12_parseRow_35 : decode cX12_parseRow 35 = .ok (.if_icmp .ne 7, 3) := by decide +kernel
theorem dX12_parseRow_38 : decode cX12_parseRow 38 = .ok (.iconst 1, 1) := by decide +kernel
theorem dX12_parseRow_39 : decode cX12_parseRow 39 = .ok (.goto 4, 3) := by decide +kernel
theorem dX12_parseRow_42 : decode cX12_parseRow 42 = .ok (.iconst 0, 1) := by decide +kernel
theorem dX12_parseRow_43 : decode cX12_parseRow 43 = .ok (.bipush (-12), 2) := by decide +kernel
theorem dX12_parseRow_45 : decode cX12_parseRow 45 = .ok (.invokevirtual 131, 3) := by decide +kernel
theorem dX12_parseRow_48 : decode cX12_parseRow 48 = .ok (.aload_n 0, 1) := by decide +kernel
theorem dX12_parseRow_49 : decode cX12_parseRow 49 = .ok (.iload_n 2, 1) := by decide +kernel
theorem dX12_parseRow_50 : decode cX12_parseRow 50 = .ok (.aload_n 0, 1) := by decide +kernel
theorem dX12_parseRow_51 : decode cX12_parseRow 51 = .ok (.getfield 13, 3) := by decide +kernel
theorem dX12_parseRow_54 : decode cX12_parseRow 54 = .ok (.iconst 1, 1) := by decide +kernel
theorem dX12_parseRow_55 : decode cX12_parseRow 55 = .ok (.iaload, 1) := by decide +kernel
theorem dX12_parseRow_56 : decode cX12_parseRow 56 = .ok (.if_icmp .ge 7, 3) := by decide +kernel
theorem dX12_parseRow_59 : decode cX12_parseRow 59 = .ok (.iconst 1, 1) := by decide +kernel
theorem dX12_parseRow_60 : decode cX12_parseRow 60 = .ok (.goto 4, 3) := by decide +kernel
theorem dX12_parseRow_63 : decode cX12_parseRow 63 = .ok (.iconst 0, 1) := by decide +kernel
theorem dX12_parseRow_64 : decode cX12_parseRow 64 = .ok (.bipush (-15), 2) := by decide +kernel
theorem dX12_parseRow_66 : decode cX12_parseRow 66 = .ok (.invokevirtual 131, 3) := by decide +kernel
theorem dX12_parseRow_69 : decode cX12_parseRow 69 = .ok (.aload_n 0, 1) := by decide +kernel
theorem dX12_parseRow_70 : decode cX12_parseRow 70 = .ok (.getfield 125, 3) := by decide +kernel
theorem dX12_parseRow_73 : decode cX12_parseRow 73 = .ok (.ifCond .eq 4, 3) := by decide +kernel
theorem dX12_parseRow_76 : decode cX12_parseRow 76 = .ok (.return_, 1) := by decide +kernel
theorem dX12_parseRow_77 : decode cX12_parseRow 77 = .ok (.iconst 0, 1) := by decide +kernel
theorem dX12_parseRow_78 : decode cX12_parseRow 78 = .ok (.istore_n 3, 1) := by decide +kernel
theorem dX12_parseRow_79 : decode cX12_parseRow 79 = .ok (.iload_n 3, 1) := by decide +kernel
theorem dX12_parseRow_80 : decode cX12_parseRow 80 = .ok (.aload_n 0, 1) := by decide +kernel
theorem dX12_parseRow_81 : decode cX12_parseRow 81 = .ok (.getfield 13, 3) := by decide +kernel
theorem dX12_parseRow_84 : decode cX12_parseRow 84 = .ok (.iconst 0, 1) := by decide +kernel
theorem dX12_parseRow_85 : decode cX12_parseRow 85 = .ok (.iaload, 1) := by decide +kernel
theorem dX12_parseRow_86 : decode cX12_parseRow 86 = .ok (.if_icmp .ge 42, 3) := by decide +kernel
theorem dX12_parseRow_89 : decode cX12_parseRow 89 = .ok (.aload_n 0, 1) := by decide +kernel
theorem dX12_parseRow_90 : decode cX12_parseRow 90 = .ok (.getfield 13, 3) := by decide +kernel
theorem dX12_parseRow_93 : decode cX12_parseRow 93 = .ok (.bipush 91, 2) := by decide +kernel
theorem dX12_parseRow_95 : decode cX12_parseRow 95 = .ok (.bipush 120, 2) := by decide +kernel
theorem dX12_parseRow_97 : decode cX12_parseRow 97 = .ok (.iload_n 1, 1) := by decide +kernel
theorem dX12_parseRow_98 : decode cX12_parseRow 98 = .ok (.imul, 1) := by decide +kernel
theorem dX12_parseRow_99 : decode cX12_parseRow 99 = .ok (.iadd, 1) := by decide +kernel
theorem dX12_parseRow_100 : decode cX12_parseRow 100 = .ok (.bipush 12, 2) := by decide +kernel
theorem dX12_parseRow_102 : decode cX12_parseRow 102 = .ok (.iload_n 2, 1) := by decide +kernel
theorem dX12_parseRow_103 : decode cX12_parseRow 103 = .ok (.imul, 1) := by decide +kernel
theorem dX12_parseRow_104 : decode cX12_parseRow 104 = .ok (.iadd, 1) := by decide +kernel
theorem dX12_parseRow_105 : decode cX12_parseRow 105 = .ok (.iload_n 3, 1) := by decide +kernel
theorem dX12_parseRow_106 : decode cX12_parseRow 106 = .ok (.iadd, 1) := by decide +kernel
theorem dX12_parseRow_107 : decode cX12_parseRow 107 = .ok (.aload_n 0, 1) := by decide +kernel
theorem dX12_parseRow_108 : decode cX12_parseRow 108 = .ok (.getfield 19, 3) := by decide +kernel
theorem dX12_parseRow_111 : decode cX12_parseRow 111 = .ok (.aload_n 0, 1) := by decide +kernel
theorem dX12_parseRow_112 : decode cX12_parseRow 112 = .ok (.getfield 106, 3) := by decide +kernel
theorem dX12_parseRow_115 : decode cX12_parseRow 115 = .ok (.iload_n 3, 1) := by decide +kernel
theorem dX12_parseRow_116 : decode cX12_parseRow 116 = .ok (.iadd, 1) := by decide +kernel
theorem dX12_parseRow_117 : decode cX12_parseRow 117 = .ok (.baload, 1) := by decide +kernel
theorem dX12_parseRow_118 : decode cX12_parseRow 118 = .ok (.bipush 48, 2) := by decide +kernel
theorem dX12_parseRow_120 : decode cX12_parseRow 120 = .ok (.isub, 1) := by decide +kernel
theorem dX12_parseRow_121 : decode cX12_parseRow 121 = .ok (.iastore, 1) := by decide +kernel
theorem dX12_parseRow_122 : decode cX12_parseRow 122 = .ok (.iinc 3 1, 3) := by decide +kernel
theorem dX12_parseRow_125 : decode cX12_parseRow 125 = .ok (.goto (-46), 3) := by decide +kernel
theorem dX12_parseRow_128 : decode cX12_parseRow 128 = .ok (.aload_n 0, 1) := by decide +kernel
theorem dX12_parseRow_129 : decode cX12_parseRow 129 = .ok (.invokevirtual 128, 3) := by decide +kernel
theorem dX12_parseRow_132 : decode cX12_parseRow 132 = .ok (.return_, 1) := by decide +kernel
theorem dX12_parseFrame_0 : decode cX12_parseFrame 0 = .ok (.aload_n 0, 1) := by decide +kernel
theorem dX12_parseFrame_1 : decode cX12_parseFrame 1 = .ok (.getfield 13, 3) := by decide +kernel
theorem dX12_parseFrame_4 : decode cX12_parseFrame 4 = .ok (.iconst 2, 1) := by decide +kernel
theorem dX12_parseFrame_5 : decode cX12_parseFrame 5 = .ok (.iaload, 1) := by decide +kernel
theorem dX12_parseFrame_6 : decode cX12_parseFrame 6 = .ok (.istore_n 1, 1) := by decide +kernel
theorem dX12_parseFrame_7 : decode cX12_parseFrame 7 = .ok (.aload_n 0, 1) := by decide +kernel
theorem dX12_parseFrame_8 : decode cX12_parseFrame 8 = .ok (.iload_n 1, 1) := by decide +kernel
theorem dX12_parseFrame_9 : decode cX12_parseFrame 9 = .ok (.bipush 6, 2) := by decide +kernel
theorem dX12_parseFrame_11 : decode cX12_parseFrame 11 = .ok (.if_icmp .ge 7, 3) := by decide +kernel
theorem dX12_parseFrame_14 : decode cX12_parseFrame 14 = .ok (.iconst 1, 1) := by decide +kernel
theorem dX12_parseFrame_15 : decode cX12_parseFrame 15 = .ok (.goto 4, 3) := by decide +kernel
theorem dX12_parseFrame_18 : decode cX12_parseFrame 18 = .ok (.iconst 0, 1) := by decide +kernel
theorem dX12_parseFrame_19 : decode cX12_parseFrame 19 = .ok (.bipush (-15), 2) := by decide +kernel
theorem dX12_parseFrame_21 : decode cX12_parseFrame 21 = .ok (.invokevirtual 131, 3) := by decide +kernel
theorem dX12_parseFrame_24 : decode cX12_parseFrame 24 = .ok (.aload_n 0, 1) := by decide +kernel
theorem dX12_parseFrame_25 : decode cX12_parseFrame 25 = .ok (.invokevirtual 135, 3) := by decide +kernel
theorem dX12_parseFrame_28 : decode cX12_parseFrame 28 = .ok (.aload_n 0, 1) := by decide +kernel
theorem dX12_parseFrame_29 : decode cX12_parseFrame 29 = .ok (.aload_n 0, 1) := by decide +kernel
theorem dX12_parseFrame_30 : decode cX12_parseFrame 30 = .ok (.getfield 116, 3) := by decide +kernel
theorem dX12_parseFrame_33 : decode cX12_parseFrame 33 = .ok (.iconst 2, 1) := by decide +kernel
theorem dX12_parseFrame_34 : decode cX12_parseFrame 34 = .ok (.if_icmp .ne 7, 3) := by decide +kernel
theorem dX12_parseFrame_37 : decode cX12_parseFrame 37 = .ok (.iconst 1, 1) := by decide +kernel
theorem dX12_parseFrame_38 : decode cX12_parseFrame 38 = .ok (.goto 4, 3) := by decide +kernel
theorem dX12_parseFrame_41 : decode cX12_parseFrame 41 = .ok (.iconst 0, 1) := by decide +kernel
theorem dX12_parseFrame_42 : decode cX12_parseFrame 42 = .ok (.bipush (-11), 2) := by decide +kernel
theorem dX12_parseFrame_44 : decode cX12_parseFrame 44 = .ok (.invokevirtual 131, 3) := by decide +kernel
theorem dX12_parseFrame_47 : decode cX12_parseFrame 47 = .ok (.aload_n 0, 1) := by decide +kernel
theorem dX12_parseFrame_48 : decode cX12_parseFrame 48 = .ok (.aload_n 0, 1) := by decide +kernel
theorem dX12_parseFrame_49 : decode cX12_parseFrame 49 = .ok (.getfield 113, 3) := by decide +kernel
theorem dX12_parseFrame_52 : decode cX12_parseFrame 52 = .ok (.sipush 9999, 3) := by decide +kernel
theorem dX12_parseFrame_55 : decode cX12_parseFrame 55 = .ok (.if_icmp .gt 7, 3) := by decide +kernel
theorem dX12_parseFrame_58 : decode cX12_parseFrame 58 = .ok (.iconst 1, 1) := by decide +kernel
theorem dX12_parseFrame_59 : decode cX12_parseFrame 59 = .ok (.goto 4, 3) := by decide +kernel
theorem dX12_parseFrame_62 : decode cX12_parseFrame 62 = .ok (.iconst 0, 1) := by decide +kernel
theorem dX12_parseFrame_63 : decode cX12_parseFrame 63 = .ok (.bipush (-12), 2) := by decide +kernel
theorem dX12_parseFrame_65 : decode cX12_parseFrame 65 = .ok (.invokevirtual 131, 3) := by decide +kernel
theorem dX12_parseFrame_68 : decode cX12_parseFrame 68 = .ok (.aload_n 0, 1) := by decide +kernel
theorem dX12_parseFrame_69 : decode cX12_parseFrame 69 = .ok (.iload_n 1, 1) := by decide +kernel
theorem dX12_parseFrame_70 : decode cX12_parseFrame 70 = .ok (.ifCond .eq 21, 3) := by decide +kernel
theorem dX12_parseFrame_73 : decode cX12_parseFrame 73 = .ok (.aload_n 0, 1) := by decide +kernel
theorem dX12_parseFrame_74 : decode cX12_parseFrame 74 = .ok (.getfield 113, 3) := by decide +kernel
theorem dX12_parseFrame_77 : decode cX12_parseFrame 77 = .ok (.aload_n 0, 1) := by decide +kernel
theorem dX12_parseFrame_78 : decode cX12_parseFrame 78 = .ok (.getfield 13, 3) := by decide +kernel
theorem dX12_parseFrame_81 : decode cX12_parseFrame 81 = .ok (.bipush 6, 2) := by decide +kernel
theorem dX12_parseFrame_83 : decode cX12_parseFrame 83 = .ok (.iload_n 1, 1) := by decide +kernel
theorem dX12_parseFrame_84 : decode cX12_parseFrame 84 = .ok (.iadd, 1) := by decide +kernel
theorem dX12_parseFrame_85 : decode cX12_parseFrame 85 = .ok (.iconst 1, 1) := by decide +kernel
theorem dX12_parseFrame_86 : decode cX12_parseFrame 86 = .ok (.isub, 1) := by decide +kernel
theorem dX12_parseFrame_87 : decode cX12_parseFrame 87 = .ok (.iaload, 1) := by decide +kernel
theorem dX12_parseFrame_88 : decode cX12_parseFrame 88 = .ok (.if_icmp .le 7, 3) := by decide +kernel
theorem dX12_parseFrame_91 : decode cX12_parseFrame 91 = .ok (.iconst 1, 1) := by decide +kernel
theorem dX12_parseFrame_92 : decode cX12_parseFrame 92 = .ok (.goto 4, 3) := by decide +kernel
theorem dX12_parseFrame_95 : decode cX12_parseFrame 95 = .ok (.iconst 0, 1) := by decide +kernel
theorem dX12_parseFrame_96 : decode cX12_parseFrame 96 = .ok (.bipush (-14), 2) := by decide +kernel
theorem dX12_parseFrame_98 : decode cX12_parseFrame 98 = .ok (.invokevirtual 131, 3) := by decide +kernel
theorem dX12_parseFrame_101 : decode cX12_parseFrame 101 = .ok (.aload_n 0, 1) := by decide +kernel
theorem dX12_parseFrame_102 : decode cX12_parseFrame 102 = .ok (.getfield 125, 3) := by decide +kernel
theorem dX12_parseFrame_105 : decode cX12_parseFrame 105 = .ok (.ifCond .eq 4, 3) := by decide +kernel
theorem dX12_parseFrame_108 : decode cX12_parseFrame 108 = .ok (.return_, 1) := by decide +kernel
theorem dX12_parseFrame_109 : decode cX12_parseFrame 109 = .ok (.aload_n 0, 1) := by decide +kernel
theorem dX12_parseFrame_110 : decode cX12_parseFrame 110 = .ok (.getfield 13, 3) := by decide +kernel
theorem dX12_parseFrame_113 : decode cX12_parseFrame 113 = .ok (.bipush 6, 2) := by decide +kernel
theorem dX12_parseFrame_115 : decode cX12_parseFrame 115 = .ok (.iload_n 1, 1) := by decide +kernel
theorem dX12_parseFrame_116 : decode cX12_parseFrame 116 = .ok (.iadd, 1) := by decide +kernel
theorem dX12_parseFrame_117 : decode cX12_parseFrame 117 = .ok (.aload_n 0, 1) := by decide +kernel
theorem dX12_parseFrame_118 : decode cX12_parseFrame 118 = .ok (.getfield 113, 3) := by decide +kernel
theorem dX12_parseFrame_121 : decode cX12_parseFrame 121 = .ok (.iastore, 1) := by decide +kernel
theorem dX12_parseFrame_122 : decode cX12_parseFrame 122 = .ok (.aload_n 0, 1) := by decide +kernel
theorem dX12_parseFrame_123 : decode cX12_parseFrame 123 = .ok (.invokevirtual 128, 3) := by decide +kernel
theorem dX12_parseFrame_126 : decode cX12_parseFrame 126 = .ok (.iconst 0, 1) := by decide +kernel
theorem dX12_parseFrame_127 : decode cX12_parseFrame 127 = .ok (.istore_n 2, 1) := by decide +kernel
theorem dX12_parseFrame_128 : decode cX12_parseFrame 128 = .ok (.aload_n 0, 1) := by decide +kernel
theorem dX12_parseFrame_129 : decode cX12_parseFrame 129 = .ok (.getfield 125, 3) := by decide +kernel
theorem dX12_parseFrame_132 : decode cX12_parseFrame 132 = .ok (.ifCond .ne 27, 3) := by decide +kernel
theorem dX12_parseFrame_135 : decode cX12_parseFrame 135 = .ok (.iload_n 2, 1) := by decide +kernel
theorem dX12_parseFrame_136 : decode cX12_parseFrame 136 = .ok (.ifCond .eq 11, 3) := by decide +kernel
theorem dX12_parseFrame_139 : decode cX12_parseFrame 139 = .ok (.aload_n 0, 1) := by decide +kernel
theorem dX12_parseFrame_140 : decode cX12_parseFrame 140 = .ok (.getfield 116, 3) := by decide +kernel
theorem dX12_parseFrame_143 : decode cX12_parseFrame 143 = .ok (.iconst 2, 1) := by decide +kernel
theorem dX12_parseFrame_144 : decode cX12_parseFrame 144 = .ok (.if_icmp .ne 15, 3) := by decide +kernel
theorem dX12_parseFrame_147 : decode cX12_parseFrame 147 = .ok (.aload_n 0, 1) := by decide +kernel
theorem dX12_parseFrame_148 : decode cX12_parseFrame 148 = .ok (.iload_n 1, 1) := by decide +kernel
theorem dX12_parseFrame_149 : decode cX12_parseFrame 149 = .ok (.iload_n 2, 1) := by decide +kernel
theorem dX12_parseFrame_150 : decode cX12_parseFrame 150 = .ok (.invokevirtual 145, 3) := by decide +kernel
theorem dX12_parseFrame_153 : decode cX12_parseFrame 153 = .ok (.iinc 2 1, 3) := by decide +kernel
theorem dX12_parseFrame_156 : decode cX12_parseFrame 156 = .ok (.goto (-28), 3) := by decide +kernel
theorem dX12_parseFrame_159 : decode cX12_parseFrame 159 = .ok (.aload_n 0, 1) := by decide +kernel
theorem dX12_parseFrame_160 : decode cX12_parseFrame 160 = .ok (.aload_n 0, 1) := by decide +kernel
theorem dX12_parseFrame_161 : decode cX12_parseFrame 161 = .ok (.getfield 116, 3) := by decide +kernel
theorem dX12_parseFrame_164 : decode cX12_parseFrame 164 = .ok (.iconst 3, 1) := by decide +kernel
theorem dX12_parseFrame_165 : decode cX12_parseFrame 165 = .ok (.if_icmp .ne 7, 3) := by decide +kernel
theorem dX12_parseFrame_168 : decode cX12_parseFrame 168 = .ok (.iconst 1, 1) := by decide +kernel
theorem dX12_parseFrame_169 : decode cX12_parseFrame 169 = .ok (.goto 4, 3) := by decide +kernel
theorem dX12_parseFrame_172 : decode cX12_parseFrame 172 = .ok (.iconst 0, 1) := by decide +kernel
theorem dX12_parseFrame_173 : decode cX12_parseFrame 173 = .ok (.bipush (-11), 2) := by decide +kernel
theorem dX12_parseFrame_175 : decode cX12_parseFrame 175 = .ok (.invokevirtual 131, 3) := by decide +kernel
theorem dX12_parseFrame_178 : decode cX12_parseFrame 178 = .ok (.aload_n 0, 1) := by decide +kernel
theorem dX12_parseFrame_179 : decode cX12_parseFrame 179 = .ok (.iload_n 2, 1) := by decide +kernel
theorem dX12_parseFrame_180 : decode cX12_parseFrame 180 = .ok (.aload_n 0, 1) := by decide +kernel
theorem dX12_parseFrame_181 : decode cX12_parseFrame 181 = .ok (.getfield 13, 3) := by decide +kernel
theorem dX12_parseFrame_184 : decode cX12_parseFrame 184 = .ok (.iconst 1, 1) := by decide +kernel
theorem dX12_parseFrame_185 : decode cX12_parseFrame 185 = .ok (.iaload, 1) := by decide +kernel
theorem dX12_parseFrame_186 : decode cX12_parseFrame 186 = .ok (.if_icmp .ne 7, 3) := by decide +kernel
theorem dX12_parseFrame_189 : decode cX12_parseFrame 189 = .ok (.iconst 1, 1) := by decide +kernel
theorem dX12_parseFrame_190 : decode cX12_parseFrame 190 = .ok (.goto 4, 3) := by decide +kernel
theorem dX12_parseFrame_193 : decode cX12_parseFrame 193 = .ok (.iconst 0, 1) := by decide +kernel
theorem dX12_parseFrame_194 : decode cX12_parseFrame 194 = .ok (.bipush (-15), 2) := by decide +kernel
theorem dX12_parseFrame_196 : decode cX12_parseFrame 196 = .ok (.invokevirtual 131, 3) := by decide +kernel
theorem dX12_parseFrame_199 : decode cX12_parseFrame 199 = .ok (.aload_n 0, 1) := by decide +kernel
theorem dX12_parseFrame_200 : decode cX12_parseFrame 200 = .ok (.getfield 125, 3) := by decide +kernel
theorem dX12_parseFrame_203 : decode cX12_parseFrame 203 = .ok (.ifCond .ne 13, 3) := by decide +kernel
theorem dX12_parseFrame_206 : decode cX12_parseFrame 206 = .ok (.aload_n 0, 1) := by decide +kernel
theorem dX12_parseFrame_207 : decode cX12_parseFrame 207 = .ok (.getfield 13, 3) := by decide +kernel
theorem dX12_parseFrame_210 : decode cX12_parseFrame 210 = .ok (.iconst 2, 1) := by decide +kernel
theorem dX12_parseFrame_211 : decode cX12_parseFrame 211 = .ok (.dup2, 1) := by decide +kernel
theorem dX12_parseFrame_212 : decode cX12_parseFrame 212 = .ok (.iaload, 1) := by decide +kernel
theorem dX12_parseFrame_213 : decode cX12_parseFrame 213 = .ok (.iconst 1, 1) := by decide +kernel
theorem dX12_parseFrame_214 : decode cX12_parseFrame 214 = .ok (.iadd, 1) := by decide +kernel
theorem dX12_parseFrame_215 : decode cX12_parseFrame 215 = .ok (.iastore, 1) := by decide +kernel
theorem dX12_parseFrame_216 : decode cX12_parseFrame 216 = .ok (.return_, 1) := by decide +kernel
theorem dX12_parsePixel_0 : decode cX12_parsePixel 0 = .ok (.aload_n 0, 1) := by decide +kernel
theorem dX12_parsePixel_1 : decode cX12_parsePixel 1 = .ok (.getfield 13, 3) := by decide +kernel
theorem dX12_parsePixel_4 : decode cX12_parsePixel 4 = .ok (.iload_n 1, 1) := by decide +kernel
theorem dX12_parsePixel_5 : decode cX12_parsePixel 5 = .ok (.iaload, 1) := by decide +kernel
theorem dX12_parsePixel_6 : decode cX12_parsePixel 6 = .ok (.istore 4, 2) := by decide +kernel
theorem dX12_parsePixel_8 : decode cX12_parsePixel 8 = .ok (.aload_n 0, 1) := by decide +kernel
theorem dX12_parsePixel_9 : decode cX12_parsePixel 9 = .ok (.iload 4, 2) := by decide +kernel
theorem dX12_parsePixel_11 : decode cX12_parsePixel 11 = .ok (.iload_n 2, 1) := by decide +kernel
theorem dX12_parsePixel_12 : decode cX12_parsePixel 12 = .ok (.if_icmp .ge 7, 3) := by decide +kernel
theorem dX12_parsePixel_15 : decode cX12_parsePixel 15 = .ok (.iconst 1, 1) := by decide +kernel
theorem dX12_parsePixel_16 : decode cX12_parsePixel 16 = .ok (.goto 4, 3) := by decide +kernel
theorem dX12_parsePixel_19 : decode cX12_parsePixel 19 = .ok (.iconst 0, 1) := by decide +kernel
theorem dX12_parsePixel_20 : decode cX12_parsePixel 20 = .ok (.bipush (-15), 2) := by decide +kernel
theorem dX12_parsePixel_22 : decode cX12_parsePixel 22 = .ok (.invokevirtual 131, 3) := by decide +kernel
theorem dX12_parsePixel_25 : decode cX12_parsePixel 25 = .ok (.aload_n 0, 1) := by decide +kernel
theorem dX12_parsePixel_26 : decode cX12_parsePixel 26 = .ok (.invokevirtual 135, 3) := by decide +kernel
theorem dX12_parsePixel_29 : decode cX12_parsePixel 29 = .ok (.aload_n 0, 1) := by decide +kernel
theorem dX12_parsePixel_30 : decode cX12_parsePixel 30 = .ok (.iconst 0, 1) := by decide +kernel
theorem dX12_parsePixel_31 : decode cX12_parsePixel 31 = .ok (.aload_n 0, 1) := by decide +kernel
theorem dX12_parsePixel_32 : decode cX12_parsePixel 32 = .ok (.getfield 13, 3) := by decide +kernel
theorem dX12_parsePixel_35 : decode cX12_parsePixel 35 = .ok (.iconst 0, 1) := by decide +kernel
theorem dX12_parsePixel_36 : decode cX12_parsePixel 36 = .ok (.iaload, 1) := by decide +kernel
theorem dX12_parsePixel_37 : decode cX12_parsePixel 37 = .ok (.iconst 1, 1) := by decide +kernel
theorem dX12_parsePixel_38 : decode cX12_parsePixel 38 = .ok (.isub, 1) := by decide +kernel
theorem dX12_parsePixel_39 : decode cX12_parsePixel 39 = .ok (.invokevirtual 141, 3) := by decide +kernel
theorem dX12_parsePixel_42 : decode cX12_parsePixel 42 = .ok (.istore 5, 2) := by decide +kernel
theorem dX12_parsePixel_44 : decode cX12_parsePixel 44 = .ok (.aload_n 0, 1) := by decide +kernel
theorem dX12_parsePixel_45 : decode cX12_parsePixel 45 = .ok (.iconst 0, 1) := by decide +kernel
theorem dX12_parsePixel_46 : decode cX12_parsePixel 46 = .ok (.aload_n 0, 1) := by decide +kernel
theorem dX12_parsePixel_47 : decode cX12_parsePixel 47 = .ok (.getfield 13, 3) := by decide +kernel
theorem dX12_parsePixel_50 : decode cX12_parsePixel 50 = .ok (.iconst 1, 1) := by decide +kernel
theorem dX12_parsePixel_51 : decode cX12_parsePixel 51 = .ok (.iaload, 1) := by decide +kernel
theorem dX12_parsePixel_52 : decode cX12_parsePixel 52 = .ok (.iconst 1, 1) := by decide +kernel
theorem dX12_parsePixel_53 : decode cX12_parsePixel 53 = .ok (.isub, 1) := by decide +kernel
theorem dX12_parsePixel_54 : decode cX12_parsePixel 54 = .ok (.invokevirtual 141, 3) := by decide +kernel
theorem dX12_parsePixel_57 : decode cX12_parsePixel 57 = .ok (.istore 6, 2) := by decide +kernel
theorem dX12_parsePixel_59 : decode cX12_parsePixel 59 = .ok (.aload_n 0, 1) := by decide +kernel
theorem dX12_parsePixel_60 : decode cX12_parsePixel 60 = .ok (.getfield 125, 3) := by decide +kernel
theorem dX12_parsePixel_63 : decode cX12_parsePixel 63 = .ok (.ifCond .eq 4, 3) := by decide +kernel
theorem dX12_parsePixel_66 : decode cX12_parsePixel 66 = .ok (.return_, 1) := by decide +kernel
theorem dX12_parsePixel_67 : decode cX12_parsePixel 67 = .ok (.aload_n 0, 1) := by decide +kernel
theorem dX12_parsePixel_68 : decode cX12_parsePixel 68 = .ok (.getfield 13, 3) := by decide +kernel
theorem dX12_parsePixel_71 : decode cX12_parsePixel 71 = .ok (.iload_n 3, 1) := by decide +kernel
theorem dX12_parsePixel_72 : decode cX12_parsePixel 72 = .ok (.iconst 2, 1) := by decide +kernel
theorem dX12_parsePixel_73 : decode cX12_parsePixel 73 = .ok (.iload 4, 2) := by decide +kernel
theorem dX12_parsePixel_75 : decode cX12_parsePixel 75 = .ok (.imul, 1) := by decide +kernel
theorem dX12_parsePixel_76 : decode cX12_parsePixel 76 = .ok (.iadd, 1) := by decide +kernel
theorem dX12_parsePixel_77 : decode cX12_parsePixel 77 = .ok (.iload 5, 2) := by decide +kernel
theorem dX12_parsePixel_79 : decode cX12_parsePixel 79 = .ok (.iastore, 1) := by decide +kernel
theorem dX12_parsePixel_80 : decode cX12_parsePixel 80 = .ok (.aload_n 0, 1) := by decide +kernel
theorem dX12_parsePixel_81 : decode cX12_parsePixel 81 = .ok (.getfield 13, 3) := by decide +kernel
theorem dX12_parsePixel_84 : decode cX12_parsePixel 84 = .ok (.iload_n 3, 1) := by decide +kernel
theorem dX12_parsePixel_85 : decode cX12_parsePixel 85 = .ok (.iconst 2, 1) := by decide +kernel
theorem dX12_parsePixel_86 : decode cX12_parsePixel 86 = .ok (.iload 4, 2) := by decide +kernel
theorem dX12_parsePixel_88 : decode cX12_parsePixel 88 = .ok (.imul, 1) := by decide +kernel
theorem dX12_parsePixel_89 : decode cX12_parsePixel 89 = .ok (.iadd, 1) := by decide +kernel
theorem dX12_parsePixel_90 : decode cX12_parsePixel 90 = .ok (.iconst 1, 1) := by decide +kernel
theorem dX12_parsePixel_91 : decode cX12_parsePixel 91 = .ok (.iadd, 1) := by decide +kernel
theorem dX12_parsePixel_92 : decode cX12_parsePixel 92 = .ok (.iload 6, 2) := by decide +kernel
theorem dX12_parsePixel_94 : decode cX12_parsePixel 94 = .ok (.iastore, 1) := by decide +kernel
theorem dX12_parsePixel_95 : decode cX12_parsePixel 95 = .ok (.aload_n 0, 1) := by decide +kernel
theorem dX12_parsePixel_96 : decode cX12_parsePixel 96 = .ok (.getfield 13, 3) := by decide +kernel
theorem dX12_parsePixel_99 : decode cX12_parsePixel 99 = .ok (.iload_n 1, 1) := by decide +kernel
theorem dX12_parsePixel_100 : decode cX12_parsePixel 100 = .ok (.dup2, 1) := by decide +kernel
theorem dX12_parsePixel_101 : decode cX12_parsePixel 101 = .ok (.iaload, 1) := by decide +kernel
theorem dX12_parsePixel_102 : decode cX12_parsePixel 102 = .ok (.iconst 1, 1) := by decide +kernel
theorem dX12_parsePixel_103 : decode cX12_parsePixel 103 = .ok (.iadd, 1) := by decide +kernel
theorem dX12_parsePixel_104 : decode cX12_parsePixel 104 = .ok (.iastore, 1) := by decide +kernel
theorem dX12_parsePixel_105 : decode cX12_parsePixel 105 = .ok (.return_, 1) := by decide +kernel
theorem dX12_parseStake_0 : decode cX12_parseStake 0 = .ok (.aload_n 0, 1) := by decide +kernel
theorem dX12_parseStake_1 : decode cX12_parseStake 1 = .ok (.getfield 13, 3) := by decide +kernel
theorem dX12_parseStake_4 : decode cX12_parseStake 4 = .ok (.iconst 5, 1) := by decide +kernel
theorem dX12_parseStake_5 : decode cX12_parseStake 5 = .ok (.iaload, 1) := by decide +kernel
theorem dX12_parseStake_6 : decode cX12_parseStake 6 = .ok (.istore_n 1, 1) := by decide +kernel
theorem dX12_parseStake_7 : decode cX12_parseStake 7 = .ok (.aload_n 0, 1) := by decide +kernel
theorem dX12_parseStake_8 : decode cX12_parseStake 8 = .ok (.iload_n 1, 1) := by decide +kernel
theorem dX12_parseStake_9 : decode cX12_parseStake 9 = .ok (.iconst 3, 1) := by decide +kernel
theorem dX12_parseStake_10 : decode cX12_parseStake 10 = .ok (.if_icmp .ge 7, 3) := by decide +kernel
theorem dX12_parseStake_13 : decode cX12_parseStake 13 = .ok (.iconst 1, 1) := by decide +kernel
theorem dX12_parseStake_14 : decode cX12_parseStake 14 = .ok (.goto 4, 3) := by decide +kernel
theorem dX12_parseStake_17 : decode cX12_parseStake 17 = .ok (.iconst 0, 1) := by decide +kernel
theorem dX12_parseStake_18 : decode cX12_parseStake 18 = .ok (.bipush (-15), 2) := by decide +kernel
theorem dX12_parseStake_20 : decode cX12_parseStake 20 = .ok (.invokevirtual 131, 3) := by decide +kernel
theorem dX12_parseStake_23 : decode cX12_parseStake 23 = .ok (.aload_n 0, 1) := by decide +kernel
theorem dX12_parseStake_24 : decode cX12_parseStake 24 = .ok (.invokevirtual 135, 3) := by decide +kernel
theorem dX12_parseStake_27 : decode cX12_parseStake 27 = .ok (.iconst 0, 1) := by decide +kernel
theorem dX12_parseStake_28 : decode cX12_parseStake 28 = .ok (.istore_n 2, 1) := by decide +kernel
theorem dX12_parseStake_29 : decode cX12_parseStake 29 = .ok (.aload_n 0, 1) := by decide +kernel
theorem dX12_parseStake_30 : decode cX12_parseStake 30 = .ok (.getfield 125, 3) := by decide +kernel
theorem dX12_parseStake_33 : decode cX12_parseStake 33 = .ok (.ifCond .ne 160, 3) := by decide +kernel
theorem dX12_parseStake_36 : decode cX12_parseStake 36 = .ok (.iload_n 2, 1) := by decide +kernel
theorem dX12_parseStake_37 : decode cX12_parseStake 37 = .ok (.ifCond .eq 11, 3) := by decide +kernel
theorem dX12_parseStake_40 : decode cX12_parseStake 40 = .ok (.aload_n 0, 1) := by decide +kernel
theorem dX12_parseStake_41 : decode cX12_parseStake 41 = .ok (.getfield 116, 3) := by decide +kernel
theorem dX12_parseStake_44 : decode cX12_parseStake 44 = .ok (.iconst 2, 1) := by decide +kernel
theorem dX12_parseStake_45 : decode cX12_parseStake 45 = .ok (.if_icmp .ne 148, 3) := by decide +kernel
theorem dX12_parseStake_48 : decode cX12_parseStake 48 = .ok (.bipush 8, 2) := by decide +kernel
theorem dX12_parseStake_50 : decode cX12_parseStake 50 = .ok (.iload_n 1, 1) := by decide +kernel
theorem dX12_parseStake_51 : decode cX12_parseStake 51 = .ok (.imul, 1) := by decide +kernel
theorem dX12_parseStake_52 : decode cX12_parseStake 52 = .ok (.iload_n 2, 1) := by decide +kernel
theorem dX12_parseStake_53 : decode cX12_parseStake 53 = .ok (.iadd, 1) := by decide +kernel
theorem dX12_parseStake_54 : decode cX12_parseStake 54 = .ok (.istore_n 3, 1) := by decide +kernel
theorem dX12_parseStake_55 : decode cX12_parseStake 55 = .ok (.aload_n 0, 1) := by decide +kernel
theorem dX12_parseStake_56 : decode cX12_parseStake 56 = .ok (.aload_n 0, 1) := by decide +kernel
theorem dX12_parseStake_57 : decode cX12_parseStake 57 = .ok (.getfield 116, 3) := by decide +kernel
theorem dX12_parseStake_60 : decode cX12_parseStake 60 = .ok (.iconst 2, 1) := by decide +kernel
theorem dX12_parseStake_61 : decode cX12_parseStake 61 = .ok (.if_icmp .ne 7, 3) := by decide +kernel
theorem dX12_parseStake_64 : decode cX12_parseStake 64 = .ok (.iconst 1, 1) := by decide +kernel
theorem dX12_parseStake_65 : decode cX12_parseStake 65 = .ok (.goto 4, 3) := by decide +kernel
theorem dX12_parseStake_68 : decode cX12_parseStake 68 = .ok (.iconst 0, 1) := by decide +kernel
theorem dX12_parseStake_69 : decode cX12_parseStake 69 = .ok (.bipush (-11), 2) := by decide +kernel
theorem dX12_parseStake_71 : decode cX12_parseStake 71 = .ok (.invokevirtual 131, 3) := by decide +kernel
theorem dX12_parseStake_74 : decode cX12_parseStake 74 = .ok (.aload_n 0, 1) := by decide +kernel
theorem dX12_parseStake_75 : decode cX12_parseStake 75 = .ok (.aload_n 0, 1) := by decide +kernel
theorem dX12_parseStake_76 : decode cX12_parseStake 76 = .ok (.getfield 113, 3) := by decide +kernel
theorem dX12_parseStake_79 : decode cX12_parseStake 79 = .ok (.sipush 9999, 3) := by decide +kernel
theorem dX12_parseStake_82 : decode cX12_parseStake 82 = .ok (.if_icmp .gt 7, 3) := by decide +kernel
theorem dX12_parseStake_85 : decode cX12_parseStake 85 = .ok (.iconst 1, 1) := by decide +kernel
theorem dX12_parseStake_86 : decode cX12_parseStake 86 = .ok (.goto 4, 3) := by decide +kernel
theorem dX12_parseStake_89 : decode cX12_parseStake 89 = .ok (.iconst 0, 1) := by decide +kernel
theorem dX12_parseStake_90 : decode cX12_parseStake 90 = .ok (.bipush (-12), 2) := by decide +kernel
theorem dX12_parseStake_92 : decode cX12_parseStake 92 = .ok (.invokevirtual 131, 3) := by decide +kernel
theorem dX12_parseStake_95 : decode cX12_parseStake 95 = .ok (.aload_n 0, 1) := by decide +kernel
theorem dX12_parseStake_96 : decode cX12_parseStake 96 = .ok (.iload_n 2, 1) := by decide +kernel
theorem dX12_parseStake_97 : decode cX12_parseStake 97 = .ok (.ifCond .eq 21, 3) := by decide +kernel
theorem dX12_parseStake_100 : decode cX12_parseStake 100 = .ok (.aload_n 0, 1) := by decide +kernel
theorem dX12_parseStake_101 : decode cX12_parseStake 101 = .ok (.getfield 113, 3) := by decide +kernel
theorem dX12_parseStake_104 : decode cX12_parseStake 104 = .ok (.aload_n 0, 1) := by decide +kernel
theorem dX12_parseStake_105 : decode cX12_parseStake 105 = .ok (.getfield 13, 3) := by decide +kernel
theorem dX12_parseStake_108 : decode cX12_parseStake 108 = .ok (.bipush 35, 2) := by decide +kernel
theorem dX12_parseStake_110 : decode cX12_parseStake 110 = .ok (.iload_n 3, 1) := by decide +kernel
theorem dX12_parseStake_111 : decode cX12_parseStake 111 = .ok (.iadd, 1) := by decide +kernel
theorem dX12_parseStake_112 : decode cX12_parseStake 112 = .ok (.iconst 1, 1) := by decide +kernel
theorem dX12_parseStake_113 : decode cX12_parseStake 113 = .ok (.isub, 1) := by decide +kernel
theorem dX12_parseStake_114 : decode cX12_parseStake 114 = .ok (.iaload, 1) := by decide +kernel
theorem dX12_parseStake_115 : decode cX12_parseStake 115 = .ok (.if_icmp .le 7, 3) := by decide +kernel
theorem dX12_parseStake_118 : decode cX12_parseStake 118 = .ok (.iconst 1, 1) := by decide +kernel
theorem dX12_parseStake_119 : decode cX12_parseStake 119 = .ok (.goto 4, 3) := by decide +kernel
theorem dX12_parseStake_122 : decode cX12_parseStake 122 = .ok (.iconst 0, 1) := by decide +kernel
theorem dX12_parseStake_123 : decode cX12_parseStake 123 = .ok (.bipush (-14), 2) := by decide +kernel
theorem dX12_parseStake_125 : decode cX12_parseStake 125 = .ok (.invokevirtual 131, 3) := by decide +kernel
theorem dX12_parseStake_128 : decode cX12_parseStake 128 = .ok (.aload_n 0, 1) := by decide +kernel
theorem dX12_parseStake_129 : decode cX12_parseStake 129 = .ok (.iload_n 2, 1) := by decide +kernel
theorem dX12_parseStake_130 : decode cX12_parseStake 130 = .ok (.bipush 8, 2) := by decide +kernel
theorem dX12_parseStake_132 : decode cX12_parseStake 132 = .ok (.if_icmp .ge 7, 3) := by decide +kernel
theorem dX12_parseStake_135 : decode cX12_parseStake 135 = .ok (.iconst 1, 1) := by decide +kernel
theorem dX12_parseStake_136 : decode cX12_parseStake 136 = .ok (.goto 4, 3) := by decide +kernel
theorem dX12_parseStake_139 : decode cX12_parseStake 139 = .ok (.iconst 0, 1) := by decide +kernel
theorem dX12_parseStake_140 : decode cX12_parseStake 140 = .ok (.bipush (-15), 2) := by decide +kernel
theorem dX12_parseStake_142 : decode cX12_parseStake 142 = .ok (.invokevirtual 131, 3) := by decide +kernel
theorem dX12_parseStake_145 : decode cX12_parseStake 145 = .ok (.aload_n 0, 1) := by decide +kernel
theorem dX12_parseStake_146 : decode cX12_parseStake 146 = .ok (.getfield 125, 3) := by decide +kernel
theorem dX12_parseStake_149 : decode cX12_parseStake 149 = .ok (.ifCond .eq 4, 3) := by decide +kernel
theorem dX12_parseStake_152 : decode cX12_parseStake 152 = .ok (.return_, 1) := by decide +kernel
theorem dX12_parseStake_153 : decode cX12_parseStake 153 = .ok (.aload_n 0, 1) := by decide +kernel
theorem dX12_parseStake_154 : decode cX12_parseStake 154 = .ok (.getfield 13, 3) := by decide +kernel
theorem dX12_parseStake_157 : decode cX12_parseStake 157 = .ok (.bipush 35, 2) := by decide +kernel
theorem dX12_parseStake_159 : decode cX12_parseStake 159 = .ok (.iload_n 3, 1) := by decide +kernel
theorem dX12_parseStake_160 : decode cX12_parseStake 160 = .ok (.iadd, 1) := by decide +kernel
theorem dX12_parseStake_161 : decode cX12_parseStake 161 = .ok (.aload_n 0, 1) := by decide +kernel
theorem dX12_parseStake_162 : decode cX12_parseStake 162 = .ok (.getfield 113, 3) := by decide +kernel
theorem dX12_parseStake_165 : decode cX12_parseStake 165 = .ok (.iastore, 1) := by decide +kernel
theorem dX12_parseStake_166 : decode cX12_parseStake 166 = .ok (.aload_n 0, 1) := by decide +kernel
theorem dX12_parseStake_167 : decode cX12_parseStake 167 = .ok (.invokevirtual 128, 3) := by decide +kernel
theorem dX12_parseStake_170 : decode cX12_parseStake 170 = .ok (.aload_n 0, 1) := by decide +kernel
theorem dX12_parseStake_171 : decode cX12_parseStake 171 = .ok (.getfield 13, 3) := by decide +kernel
theorem dX12_parseStake_174 : decode cX12_parseStake 174 = .ok (.bipush 59, 2) := by decide +kernel
theorem dX12_parseStake_176 : decode cX12_parseStake 176 = .ok (.iload_n 3, 1) := by decide +kernel
theorem dX12_parseStake_177 : decode cX12_parseStake 177 = .ok (.iadd, 1) := by decide +kernel
theorem dX12_parseStake_178 : decode cX12_parseStake 178 = .ok (.aload_n 0, 1) := by decide +kernel
theorem dX12_parseStake_179 : decode cX12_parseStake 179 = .ok (.iconst 0, 1) := by decide +kernel
theorem dX12_parseStake_180 : decode cX12_parseStake 180 = .ok (.sipush 9999, 3) := by decide +kernel
theorem dX12_parseStake_183 : decode cX12_parseStake 183 = .ok (.invokevirtual 141, 3) := by decide +kernel
theorem dX12_parseStake_186 : decode cX12_parseStake 186 = .ok (.iastore, 1) := by decide +kernel
theorem dX12_parseStake_187 : decode cX12_parseStake 187 = .ok (.iinc 2 1, 3) := by decide +kernel
theorem dX12_parseStake_190 : decode cX12_parseStake 190 = .ok (.goto (-161), 3) := by decide +kernel
theorem dX12_parseStake_193 : decode cX12_parseStake 193 = .ok (.aload_n 0, 1) := by decide +kernel
theorem dX12_parseStake_194 : decode cX12_parseStake 194 = .ok (.getfield 13, 3) := by decide +kernel
theorem dX12_parseStake_197 : decode cX12_parseStake 197 = .ok (.bipush 32, 2) := by decide +kernel
theorem dX12_parseStake_199 : decode cX12_parseStake 199 = .ok (.iload_n 1, 1) := by decide +kernel
theorem dX12_parseStake_200 : decode cX12_parseStake 200 = .ok (.iadd, 1) := by decide +kernel
theorem dX12_parseStake_201 : decode cX12_parseStake 201 = .ok (.iload_n 2, 1) := by decide +kernel
theorem dX12_parseStake_202 : decode cX12_parseStake 202 = .ok (.iastore, 1) := by decide +kernel
theorem dX12_parseStake_203 : decode cX12_parseStake 203 = .ok (.aload_n 0, 1) := by decide +kernel
theorem dX12_parseStake_204 : decode cX12_parseStake 204 = .ok (.getfield 13, 3) := by decide +kernel
theorem dX12_parseStake_207 : decode cX12_parseStake 207 = .ok (.iconst 5, 1) := by decide +kernel
theorem dX12_parseStake_208 : decode cX12_parseStake 208 = .ok (.dup2, 1) := by decide +kernel
theorem dX12_parseStake_209 : decode cX12_parseStake 209 = .ok (.iaload, 1) := by decide +kernel
theorem dX12_parseStake_210 : decode cX12_parseStake 210 = .ok (.iconst 1, 1) := by decide +kernel
theorem dX12_parseStake_211 : decode cX12_parseStake 211 = .ok (.iadd, 1) := by decide +kernel
theorem dX12_parseStake_212 : decode cX12_parseStake 212 = .ok (.iastore, 1) := by decide +kernel
theorem dX12_parseStake_213 : decode cX12_parseStake 213 = .ok (.return_, 1) := by decide +kernel
theorem dX12_settingHere_0 : decode cX12_settingHere 0 = .ok (.aload_n 0, 1) := by decide +kernel
theorem dX12_settingHere_1 : decode cX12_settingHere 1 = .ok (.ldc2_w 149, 3) := by decide +kernel
theorem dX12_settingHere_4 : decode cX12_settingHere 4 = .ok (.invokevirtual 151, 3) := by decide +kernel
theorem dX12_settingHere_7 : decode cX12_settingHere 7 = .ok (.ifCond .eq 5, 3) := by decide +kernel
theorem dX12_settingHere_10 : decode cX12_settingHere 10 = .ok (.iconst 0, 1) := by decide +kernel
theorem dX12_settingHere_11 : decode cX12_settingHere 11 = .ok (.ireturn, 1) := by decide +kernel
theorem dX12_settingHere_12 : decode cX12_settingHere 12 = .ok (.aload_n 0, 1) := by decide +kernel
theorem dX12_settingHere_13 : decode cX12_settingHere 13 = .ok (.ldc2_w 155, 3) := by decide +kernel
theorem dX12_settingHere_16 : decode cX12_settingHere 16 = .ok (.invokevirtual 151, 3) := by decide +kernel
theorem dX12_settingHere_19 : decode cX12_settingHere 19 = .ok (.ifCond .eq 5, 3) := by decide +kernel
theorem dX12_settingHere_22 : decode cX12_settingHere 22 = .ok (.iconst 1, 1) := by decide +kernel
theorem dX12_settingHere_23 : decode cX12_settingHere 23 = .ok (.ireturn, 1) := by decide +kernel
theorem dX12_settingHere_24 : decode cX12_settingHere 24 = .ok (.aload_n 0, 1) := by decide +kernel
theorem dX12_settingHere_25 : decode cX12_settingHere 25 = .ok (.ldc2_w 157, 3) := by decide +kernel
theorem dX12_settingHere_28 : decode cX12_settingHere 28 = .ok (.invokevirtual 151, 3) := by decide +kernel
theorem dX12_settingHere_31 : decode cX12_settingHere 31 = .ok (.ifCond .eq 5, 3) := by decide +kernel
theorem dX12_settingHere_34 : decode cX12_settingHere 34 = .ok (.iconst 2, 1) := by decide +kernel
theorem dX12_settingHere_35 : decode cX12_settingHere 35 = .ok (.ireturn, 1) := by decide +kernel
theorem dX12_settingHere_36 : decode cX12_settingHere 36 = .ok (.aload_n 0, 1) := by decide +kernel
theorem dX12_settingHere_37 : decode cX12_settingHere 37 = .ok (.ldc2_w 159, 3) := by decide +kernel
theorem dX12_settingHere_40 : decode cX12_settingHere 40 = .ok (.invokevirtual 151, 3) := by decide +kernel
theorem dX12_settingHere_43 : decode cX12_settingHere 43 = .ok (.ifCond .eq 5, 3) := by decide +kernel
theorem dX12_settingHere_46 : decode cX12_settingHere 46 = .ok (.iconst 3, 1) := by decide +kernel
theorem dX12_settingHere_47 : decode cX12_settingHere 47 = .ok (.ireturn, 1) := by decide +kernel
theorem dX12_settingHere_48 : decode cX12_settingHere 48 = .ok (.aload_n 0, 1) := by decide +kernel
theorem dX12_settingHere_49 : decode cX12_settingHere 49 = .ok (.ldc2_w 161, 3) := by decide +kernel
theorem dX12_settingHere_52 : decode cX12_settingHere 52 = .ok (.invokevirtual 151, 3) := by decide +kernel
theorem dX12_settingHere_55 : decode cX12_settingHere 55 = .ok (.ifCond .eq 5, 3) := by decide +kernel
theorem dX12_settingHere_58 : decode cX12_settingHere 58 = .ok (.iconst 4, 1) := by decide +kernel
theorem dX12_settingHere_59 : decode cX12_settingHere 59 = .ok (.ireturn, 1) := by decide +kernel
theorem dX12_settingHere_60 : decode cX12_settingHere 60 = .ok (.aload_n 0, 1) := by decide +kernel
theorem dX12_settingHere_61 : decode cX12_settingHere 61 = .ok (.ldc2_w 163, 3) := by decide +kernel
theorem dX12_settingHere_64 : decode cX12_settingHere 64 = .ok (.invokevirtual 151, 3) := by decide +kernel
theorem dX12_settingHere_67 : decode cX12_settingHere 67 = .ok (.ifCond .eq 5, 3) := by decide +kernel
theorem dX12_settingHere_70 : decode cX12_settingHere 70 = .ok (.iconst 5, 1) := by decide +kernel
theorem dX12_settingHere_71 : decode cX12_settingHere 71 = .ok (.ireturn, 1) := by decide +kernel
theorem dX12_settingHere_72 : decode cX12_settingHere 72 = .ok (.aload_n 0, 1) := by decide +kernel
theorem dX12_settingHere_73 : decode cX12_settingHere 73 = .ok (.ldc2_w 165, 3) := by decide +kernel
theorem dX12_settingHere_76 : decode cX12_settingHere 76 = .ok (.invokevirtual 151, 3) := by decide +kernel
theorem dX12_settingHere_79 : decode cX12_settingHere 79 = .ok (.ifCond .eq 6, 3) := by decide +kernel
theorem dX12_settingHere_82 : decode cX12_settingHere 82 = .ok (.bipush 6, 2) := by decide +kernel
theorem dX12_settingHere_84 : decode cX12_settingHere 84 = .ok (.ireturn, 1) := by decide +kernel
theorem dX12_settingHere_85 : decode cX12_settingHere 85 = .ok (.aload_n 0, 1) := by decide +kernel
theorem dX12_settingHere_86 : decode cX12_settingHere 86 = .ok (.ldc2_w 167, 3) := by decide +kernel
theorem dX12_settingHere_89 : decode cX12_settingHere 89 = .ok (.invokevirtual 151, 3) := by decide +kernel
theorem dX12_settingHere_92 : decode cX12_settingHere 92 = .ok (.ifCond .eq 6, 3) := by decide +kernel
theorem dX12_settingHere_95 : decode cX12_settingHere 95 = .ok (.bipush 7, 2) := by decide +kernel
theorem dX12_settingHere_97 : decode cX12_settingHere 97 = .ok (.ireturn, 1) := by decide +kernel
theorem dX12_settingHere_98 : decode cX12_settingHere 98 = .ok (.iconst (-1), 1) := by decide +kernel
theorem dX12_settingHere_99 : decode cX12_settingHere 99 = .ok (.ireturn, 1) := by decide +kernel
theorem dX12_parseSetting_0 : decode cX12_parseSetting 0 = .ok (.aload_n 0, 1) := by decide +kernel
theorem dX12_parseSetting_1 : decode cX12_parseSetting 1 = .ok (.invokevirtual 128, 3) := by decide +kernel
theorem dX12_parseSetting_4 : decode cX12_parseSetting 4 = .ok (.aload_n 0, 1) := by decide +kernel
theorem dX12_parseSetting_5 : decode cX12_parseSetting 5 = .ok (.invokevirtual 169, 3) := by decide +kernel
theorem dX12_parseSetting_8 : decode cX12_parseSetting 8 = .ok (.istore_n 1, 1) := by decide +kernel
theorem dX12_parseSetting_9 : decode cX12_parseSetting 9 = .ok (.aload_n 0, 1) := by decide +kernel
theorem dX12_parseSetting_10 : decode cX12_parseSetting 10 = .ok (.iload_n 1, 1) := by decide +kernel
theorem dX12_parseSetting_11 : decode cX12_parseSetting 11 = .ok (.ifCond .lt 7, 3) := by decide +kernel
theorem dX12_parseSetting_14 : decode cX12_parseSetting 14 = .ok (.iconst 1, 1) := by decide +kernel
theorem dX12_parseSetting_15 : decode cX12_parseSetting 15 = .ok (.goto 4, 3) := by decide +kernel
theorem dX12_parseSetting_18 : decode cX12_parseSetting 18 = .ok (.iconst 0, 1) := by decide +kernel
theorem dX12_parseSetting_19 : decode cX12_parseSetting 19 = .ok (.bipush (-11), 2) := by decide +kernel
theorem dX12_parseSetting_21 : decode cX12_parseSetting 21 = .ok (.invokevirtual 131, 3) := by decide +kernel
theorem dX12_parseSetting_24 : decode cX12_parseSetting 24 = .ok (.aload_n 0, 1) := by decide +kernel
theorem dX12_parseSetting_25 : decode cX12_parseSetting 25 = .ok (.getfield 125, 3) := by decide +kernel
theorem dX12_parseSetting_28 : decode cX12_parseSetting 28 = .ok (.ifCond .eq 4, 3) := by decide +kernel
theorem dX12_parseSetting_31 : decode cX12_parseSetting 31 = .ok (.return_, 1) := by decide +kernel
theorem dX12_parseSetting_32 : decode cX12_parseSetting 32 = .ok (.aload_n 0, 1) := by decide +kernel
theorem dX12_parseSetting_33 : decode cX12_parseSetting 33 = .ok (.aload_n 0, 1) := by decide +kernel
theorem dX12_parseSetting_34 : decode cX12_parseSetting 34 = .ok (.getfield 172, 3) := by decide +kernel
theorem dX12_parseSetting_37 : decode cX12_parseSetting 37 = .ok (.iload_n 1, 1) := by decide +kernel
theorem dX12_parseSetting_38 : decode cX12_parseSetting 38 = .ok (.ishr, 1) := by decide +kernel
theorem dX12_parseSetting_39 : decode cX12_parseSetting 39 = .ok (.iconst 1, 1) := by decide +kernel
theorem dX12_parseSetting_40 : decode cX12_parseSetting 40 = .ok (.iand, 1) := by decide +kernel
theorem dX12_parseSetting_41 : decode cX12_parseSetting 41 = .ok (.ifCond .ne 7, 3) := by decide +kernel
theorem dX12_parseSetting_44 : decode cX12_parseSetting 44 = .ok (.iconst 1, 1) := by decide +kernel
theorem dX12_parseSetting_45 : decode cX12_parseSetting 45 = .ok (.goto 4, 3) := by decide +kernel
theorem dX12_parseSetting_48 : decode cX12_parseSetting 48 = .ok (.iconst 0, 1) := by decide +kernel
theorem dX12_parseSetting_49 : decode cX12_parseSetting 49 = .ok (.bipush (-13), 2) := by decide +kernel
theorem dX12_parseSetting_51 : decode cX12_parseSetting 51 = .ok (.invokevirtual 131, 3) := by decide +kernel
theorem dX12_parseSetting_54 : decode cX12_parseSetting 54 = .ok (.aload_n 0, 1) := by decide +kernel
theorem dX12_parseSetting_55 : decode cX12_parseSetting 55 = .ok (.dup, 1) := by decide +kernel
theorem dX12_parseSetting_56 : decode cX12_parseSetting 56 = .ok (.getfield 172, 3) := by decide +kernel
theorem dX12_parseSetting_59 : decode cX12_parseSetting 59 = .ok (.iconst 1, 1) := by decide +kernel
theorem dX12_parseSetting_60 : decode cX12_parseSetting 60 = .ok (.iload_n 1, 1) := by decide +kernel
theorem dX12_parseSetting_61 : decode cX12_parseSetting 61 = .ok (.ishl, 1) := by decide +kernel
theorem dX12_parseSetting_62 : decode cX12_parseSetting 62 = .ok (.ior, 1) := by decide +kernel
theorem dX12_parseSetting_63 : decode cX12_parseSetting 63 = .ok (.putfield 172, 3) := by decide +kernel
theorem dX12_parseSetting_66 : decode cX12_parseSetting 66 = .ok (.aload_n 0, 1) := by decide +kernel
theorem dX12_parseSetting_67 : decode cX12_parseSetting 67 = .ok (.invokevirtual 135, 3) := by decide +kernel
theorem dX12_parseSetting_70 : decode cX12_parseSetting 70 = .ok (.aload_n 0, 1) := by decide +kernel
theorem dX12_parseSetting_71 : decode cX12_parseSetting 71 = .ok (.getfield 125, 3) := by decide +kernel
theorem dX12_parseSetting_74 : decode cX12_parseSetting 74 = .ok (.ifCond .ne 24, 3) := by decide +kernel
theorem dX12_parseSetting_77 : decode cX12_parseSetting 77 = .ok (.aload_n 0, 1) := by decide +kernel
theorem dX12_parseSetting_78 : decode cX12_parseSetting 78 = .ok (.getfield 13, 3) := by decide +kernel
theorem dX12_parseSetting_81 : decode cX12_parseSetting 81 = .ok (.bipush 83, 2) := by decide +kernel
theorem dX12_parseSetting_83 : decode cX12_parseSetting 83 = .ok (.iload_n 1, 1) := by decide +kernel
theorem dX12_parseSetting_84 : decode cX12_parseSetting 84 = .ok (.iadd, 1) := by decide +kernel
theorem dX12_parseSetting_85 : decode cX12_parseSetting 85 = .ok (.aload_n 0, 1) := by decide +kernel
theorem dX12_parseSetting_86 : decode cX12_parseSetting 86 = .ok (.iload_n 1, 1) := by decide +kernel
theorem dX12_parseSetting_87 : decode cX12_parseSetting 87 = .ok (.invokestatic 175, 3) := by decide +kernel
theorem dX12_parseSetting_90 : decode cX12_parseSetting 90 = .ok (.iload_n 1, 1) := by decide +kernel
theorem dX12_parseSetting_91 : decode cX12_parseSetting 91 = .ok (.invokestatic 179, 3) := by decide +kernel
theorem dX12_parseSetting_94 : decode cX12_parseSetting 94 = .ok (.invokevirtual 141, 3) := by decide +kernel
theorem dX12_parseSetting_97 : decode cX12_parseSetting 97 = .ok (.iastore, 1) := by decide +kernel
theorem dX12_parseSetting_98 : decode cX12_parseSetting 98 = .ok (.return_, 1) := by decide +kernel
theorem dX12_parseStatement_0 : decode cX12_parseStatement 0 = .ok (.aload_n 0, 1) := by decide +kernel
theorem dX12_parseStatement_1 : decode cX12_parseStatement 1 = .ok (.ldc2_w 182, 3) := by decide +kernel
theorem dX12_parseStatement_4 : decode cX12_parseStatement 4 = .ok (.invokevirtual 151, 3) := by decide +kernel
theorem dX12_parseStatement_7 : decode cX12_parseStatement 7 = .ok (.ifCond .eq 10, 3) := by decide +kernel
theorem dX12_parseStatement_10 : decode cX12_parseStatement 10 = .ok (.aload_n 0, 1) := by decide +kernel
theorem dX12_parseStatement_11 : decode cX12_parseStatement 11 = .ok (.invokevirtual 184, 3) := by decide +kernel
theorem dX12_parseStatement_14 : decode cX12_parseStatement 14 = .ok (.goto 104, 3) := by decide +kernel
theorem dX12_parseStatement_17 : decode cX12_parseStatement 17 = .ok (.aload_n 0, 1) := by decide +kernel
theorem dX12_parseStatement_18 : decode cX12_parseStatement 18 = .ok (.ldc2_w 187, 3) := by decide +kernel
theorem dX12_parseStatement_21 : decode cX12_parseStatement 21 = .ok (.invokevirtual 151, 3) := by decide +kernel
theorem dX12_parseStatement_24 : decode cX12_parseStatement 24 = .ok (.ifCond .eq 10, 3) := by decide +kernel
theorem dX12_parseStatement_27 : decode cX12_parseStatement 27 = .ok (.aload_n 0, 1) := by decide +kernel
theorem dX12_parseStatement_28 : decode cX12_parseStatement 28 = .ok (.invokevirtual 189, 3) := by decide +kernel
theorem dX12_parseStatement_31 : decode cX12_parseStatement 31 = .ok (.goto 87, 3) := by decide +kernel
theorem dX12_parseStatement_34 : decode cX12_parseStatement 34 = .ok (.aload_n 0, 1) := by decide +kernel
theorem dX12_parseStatement_35 : decode cX12_parseStatement 35 = .ok (.ldc2_w 192, 3) := by decide +kernel
theorem dX12_parseStatement_38 : decode cX12_parseStatement 38 = .ok (.invokevirtual 151, 3) := by decide +kernel
theorem dX12_parseStatement_41 : decode cX12_parseStatement 41 = .ok (.ifCond .eq 14, 3) := by decide +kernel
theorem dX12_parseStatement_44 : decode cX12_parseStatement 44 = .ok (.aload_n 0, 1) := by decide +kernel
theorem dX12_parseStatement_45 : decode cX12_parseStatement 45 = .ok (.iconst 3, 1) := by decide +kernel
theorem dX12_parseStatement_46 : decode cX12_parseStatement 46 = .ok (.iconst 4, 1) := by decide +kernel
theorem dX12_parseStatement_47 : decode cX12_parseStatement 47 = .ok (.bipush 12, 2) := by decide +kernel
theorem dX12_parseStatement_49 : decode cX12_parseStatement 49 = .ok (.invokevirtual 194, 3) := by decide +kernel
theorem dX12_parseStatement_52 : decode cX12_parseStatement 52 = .ok (.goto 66, 3) := by decide +kernel
theorem dX12_parseStatement_55 : decode cX12_parseStatement 55 = .ok (.aload_n 0, 1) := by decide +kernel
theorem dX12_parseStatement_56 : decode cX12_parseStatement 56 = .ok (.ldc2_w 198, 3) := by decide +kernel
theorem dX12_parseStatement_59 : decode cX12_parseStatement 59 = .ok (.invokevirtual 151, 3) := by decide +kernel
theorem dX12_parseStatement_62 : decode cX12_parseStatement 62 = .ok (.ifCond .eq 15, 3) := by decide +kernel
theorem dX12_parseStatement_65 : decode cX12_parseStatement 65 = .ok (.aload_n 0, 1) := by decide +kernel
theorem dX12_parseStatement_66 : decode cX12_parseStatement 66 = .ok (.iconst 4, 1) := by decide +kernel
theorem dX12_parseStatement_67 : decode cX12_parseStatement 67 = .ok (.bipush 6, 2) := by decide +kernel
theorem dX12_parseStatement_69 : decode cX12_parseStatement 69 = .ok (.bipush 20, 2) := by decide +kernel
theorem dX12_parseStatement_71 : decode cX12_parseStatement 71 = .ok (.invokevirtual 194, 3) := by decide +kernel
theorem dX12_parseStatement_74 : decode cX12_parseStatement 74 = .ok (.goto 44, 3) := by decide +kernel
theorem dX12_parseStatement_77 : decode cX12_parseStatement 77 = .ok (.aload_n 0, 1) := by decide +kernel
theorem dX12_parseStatement_78 : decode cX12_parseStatement 78 = .ok (.ldc2_w 200, 3) := by decide +kernel
theorem dX12_parseStatement_81 : decode cX12_parseStatement 81 = .ok (.invokevirtual 151, 3) := by decide +kernel
theorem dX12_parseStatement_84 : decode cX12_parseStatement 84 = .ok (.ifCond .eq 10, 3) := by decide +kernel
theorem dX12_parseStatement_87 : decode cX12_parseStatement 87 = .ok (.aload_n 0, 1) := by decide +kernel
theorem dX12_parseStatement_88 : decode cX12_parseStatement 88 = .ok (.invokevirtual 202, 3) := by decide +kernel
theorem dX12_parseStatement_91 : decode cX12_parseStatement 91 = .ok (.goto 27, 3) := by decide +kernel
theorem dX12_parseStatement_94 : decode cX12_parseStatement 94 = .ok (.aload_n 0, 1) := by decide +kernel
theorem dX12_parseStatement_95 : decode cX12_parseStatement 95 = .ok (.ldc2_w 205, 3) := by decide +kernel
theorem dX12_parseStatement_98 : decode cX12_parseStatement 98 = .ok (.invokevirtual 151, 3) := by decide +kernel
theorem dX12_parseStatement_101 : decode cX12_parseStatement 101 = .ok (.ifCond .eq 10, 3) := by decide +kernel
theorem dX12_parseStatement_104 : decode cX12_parseStatement 104 = .ok (.aload_n 0, 1) := by decide +kernel
theorem dX12_parseStatement_105 : decode cX12_parseStatement 105 = .ok (.invokevirtual 207, 3) := by decide +kernel
theorem dX12_parseStatement_108 : decode cX12_parseStatement 108 = .ok (.goto 10, 3) := by decide +kernel
theorem dX12_parseStatement_111 : decode cX12_parseStatement 111 = .ok (.aload_n 0, 1) := by decide +kernel
theorem dX12_parseStatement_112 : decode cX12_parseStatement 112 = .ok (.iconst 0, 1) := by decide +kernel
theorem dX12_parseStatement_113 : decode cX12_parseStatement 113 = .ok (.bipush (-11), 2) := by decide +kernel
theorem dX12_parseStatement_115 : decode cX12_parseStatement 115 = .ok (.invokevirtual 131, 3) := by decide +kernel
theorem dX12_parseStatement_118 : decode cX12_parseStatement 118 = .ok (.return_, 1) := by decide +kernel
theorem dX12_load_0 : decode cX12_load 0 = .ok (.aload_n 0, 1) := by decide +kernel
theorem dX12_load_1 : decode cX12_load 1 = .ok (.iconst 0, 1) := by decide +kernel
theorem dX12_load_2 : decode cX12_load 2 = .ok (.putfield 83, 3) := by decide +kernel
theorem dX12_load_5 : decode cX12_load 5 = .ok (.iload_n 1, 1) := by decide +kernel
theorem dX12_load_6 : decode cX12_load 6 = .ok (.iconst 0, 1) := by decide +kernel
theorem dX12_load_7 : decode cX12_load 7 = .ok (.aload_n 0, 1) := by decide +kernel
theorem dX12_load_8 : decode cX12_load 8 = .ok (.getfield 89, 3) := by decide +kernel
theorem dX12_load_11 : decode cX12_load 11 = .ok (.invokestatic 119, 3) := by decide +kernel
theorem dX12_load_14 : decode cX12_load 14 = .ok (.ifCond .ne 6, 3) := by decide +kernel
theorem dX12_load_17 : decode cX12_load 17 = .ok (.bipush (-2), 2) := by decide +kernel
theorem dX12_load_19 : decode cX12_load 19 = .ok (.ireturn, 1) := by decide +kernel
theorem dX12_load_20 : decode cX12_load 20 = .ok (.aload_n 0, 1) := by decide +kernel
theorem dX12_load_21 : decode cX12_load 21 = .ok (.iload_n 1, 1) := by decide +kernel
theorem dX12_load_22 : decode cX12_load 22 = .ok (.putfield 99, 3) := by decide +kernel
theorem dX12_load_25 : decode cX12_load 25 = .ok (.aload_n 0, 1) := by decide +kernel
theorem dX12_load_26 : decode cX12_load 26 = .ok (.iconst 0, 1) := by decide +kernel
theorem dX12_load_27 : decode cX12_load 27 = .ok (.putfield 96, 3) := by decide +kernel
theorem dX12_load_30 : decode cX12_load 30 = .ok (.aload_n 0, 1) := by decide +kernel
theorem dX12_load_31 : decode cX12_load 31 = .ok (.iconst 0, 1) := by decide +kernel
theorem dX12_load_32 : decode cX12_load 32 = .ok (.putfield 125, 3) := by decide +kernel
theorem dX12_load_35 : decode cX12_load 35 = .ok (.aload_n 0, 1) := by decide +kernel
theorem dX12_load_36 : decode cX12_load 36 = .ok (.iconst (-1), 1) := by decide +kernel
theorem dX12_load_37 : decode cX12_load 37 = .ok (.putfield 23, 3) := by decide +kernel
theorem dX12_load_40 : decode cX12_load 40 = .ok (.aload_n 0, 1) := by decide +kernel
theorem dX12_load_41 : decode cX12_load 41 = .ok (.iconst 0, 1) := by decide +kernel
theorem dX12_load_42 : decode cX12_load 42 = .ok (.putfield 172, 3) := by decide +kernel
theorem dX12_load_45 : decode cX12_load 45 = .ok (.aload_n 0, 1) := by decide +kernel
theorem dX12_load_46 : decode cX12_load 46 = .ok (.iconst 0, 1) := by decide +kernel
theorem dX12_load_47 : decode cX12_load 47 = .ok (.putfield 138, 3) := by decide +kernel
theorem dX12_load_50 : decode cX12_load 50 = .ok (.aload_n 0, 1) := by decide +kernel
theorem dX12_load_51 : decode cX12_load 51 = .ok (.getfield 13, 3) := by decide +kernel
theorem dX12_load_54 : decode cX12_load 54 = .ok (.invokestatic 79, 3) := by decide +kernel
theorem dX12_load_57 : decode cX12_load 57 = .ok (.aload_n 0, 1) := by decide +kernel
theorem dX12_load_58 : decode cX12_load 58 = .ok (.invokevirtual 128, 3) := by decide +kernel
theorem dX12_load_61 : decode cX12_load 61 = .ok (.aload_n 0, 1) := by decide +kernel
theorem dX12_load_62 : decode cX12_load 62 = .ok (.getfield 125, 3) := by decide +kernel
theorem dX12_load_65 : decode cX12_load 65 = .ok (.ifCond .ne 50, 3) := by decide +kernel
theorem dX12_load_68 : decode cX12_load 68 = .ok (.aload_n 0, 1) := by decide +kernel
theorem dX12_load_69 : decode cX12_load 69 = .ok (.getfield 116, 3) := by decide +kernel
theorem dX12_load_72 : decode cX12_load 72 = .ok (.ifCond .eq 43, 3) := by decide +kernel
theorem dX12_load_75 : decode cX12_load 75 = .ok (.aload_n 0, 1) := by decide +kernel
theorem dX12_load_76 : decode cX12_load 76 = .ok (.invokevirtual 210, 3) := by decide +kernel
theorem dX12_load_79 : decode cX12_load 79 = .ok (.aload_n 0, 1) := by decide +kernel
theorem dX12_load_80 : decode cX12_load 80 = .ok (.aload_n 0, 1) := by decide +kernel
theorem dX12_load_81 : decode cX12_load 81 = .ok (.getfield 116, 3) := by decide +kernel
theorem dX12_load_84 : decode cX12_load 84 = .ok (.iconst 3, 1) := by decide +kernel
theorem dX12_load_85 : decode cX12_load 85 = .ok (.if_icmp .ne 7, 3) := by decide +kernel
theorem dX12_load_88 : decode cX12_load 88 = .ok (.iconst 1, 1) := by decide +kernel
theorem dX12_load_89 : decode cX12_load 89 = .ok (.goto 4, 3) := by decide +kernel
theorem dX12_load_92 : decode cX12_load 92 = .ok (.iconst 0, 1) := by decide +kernel
theorem dX12_load_93 : decode cX12_load 93 = .ok (.bipush (-11), 2) := by decide +kernel
theorem dX12_load_95 : decode cX12_load 95 = .ok (.invokevirtual 131, 3) := by decide +kernel
theorem dX12_load_98 : decode cX12_load 98 = .ok (.aload_n 0, 1) := by decide +kernel
theorem dX12_load_99 : decode cX12_load 99 = .ok (.invokevirtual 135, 3) := by decide +kernel
theorem dX12_load_102 : decode cX12_load 102 = .ok (.aload_n 0, 1) := by decide +kernel
theorem dX12_load_103 : decode cX12_load 103 = .ok (.dup, 1) := by decide +kernel
theorem dX12_load_104 : decode cX12_load 104 = .ok (.getfield 138, 3) := by decide +kernel
theorem dX12_load_107 : decode cX12_load 107 = .ok (.iconst 1, 1) := by decide +kernel
theorem dX12_load_108 : decode cX12_load 108 = .ok (.iadd, 1) := by decide +kernel
theorem dX12_load_109 : decode cX12_load 109 = .ok (.putfield 138, 3) := by decide +kernel
theorem dX12_load_112 : decode cX12_load 112 = .ok (.goto (-51), 3) := by decide +kernel
theorem dX12_load_115 : decode cX12_load 115 = .ok (.aload_n 0, 1) := by decide +kernel
theorem dX12_load_116 : decode cX12_load 116 = .ok (.iconst 0, 1) := by decide +kernel
theorem dX12_load_117 : decode cX12_load 117 = .ok (.putfield 89, 3) := by decide +kernel
theorem dX12_load_120 : decode cX12_load 120 = .ok (.aload_n 0, 1) := by decide +kernel
theorem dX12_load_121 : decode cX12_load 121 = .ok (.getfield 125, 3) := by decide +kernel
theorem dX12_load_124 : decode cX12_load 124 = .ok (.ifCond .eq 8, 3) := by decide +kernel
theorem dX12_load_127 : decode cX12_load 127 = .ok (.aload_n 0, 1) := by decide +kernel
theorem dX12_load_128 : decode cX12_load 128 = .ok (.getfield 125, 3) := by decide +kernel
theorem dX12_load_131 : decode cX12_load 131 = .ok (.ireturn, 1) := by decide +kernel
theorem dX12_load_132 : decode cX12_load 132 = .ok (.iconst 0, 1) := by decide +kernel
theorem dX12_load_133 : decode cX12_load 133 = .ok (.istore_n 2, 1) := by decide +kernel
theorem dX12_load_134 : decode cX12_load 134 = .ok (.iload_n 2, 1) := by decide +kernel
theorem dX12_load_135 : decode cX12_load 135 = .ok (.sipush 811, 3) := by decide +kernel
theorem dX12_load_138 : decode cX12_load 138 = .ok (.if_icmp .ge 21, 3) := by decide +kernel
theorem dX12_load_141 : decode cX12_load 141 = .ok (.aload_n 0, 1) := by decide +kernel
theorem dX12_load_142 : decode cX12_load 142 = .ok (.getfield 7, 3) := by decide +kernel
theorem dX12_load_145 : decode cX12_load 145 = .ok (.iload_n 2, 1) := by decide +kernel
theorem dX12_load_146 : decode cX12_load 146 = .ok (.aload_n 0, 1) := by decide +kernel
theorem dX12_load_147 : decode cX12_load 147 = .ok (.getfield 13, 3) := by decide +kernel
theorem dX12_load_150 : decode cX12_load 150 = .ok (.iload_n 2, 1) := by decide +kernel
theorem dX12_load_151 : decode cX12_load 151 = .ok (.iaload, 1) := by decide +kernel
theorem dX12_load_152 : decode cX12_load 152 = .ok (.iastore, 1) := by decide +kernel
theorem dX12_load_153 : decode cX12_load 153 = .ok (.iinc 2 1, 3) := by decide +kernel
theorem dX12_load_156 : decode cX12_load 156 = .ok (.goto (-22), 3) := by decide +kernel
theorem dX12_load_159 : decode cX12_load 159 = .ok (.aload_n 0, 1) := by decide +kernel
theorem dX12_load_160 : decode cX12_load 160 = .ok (.iconst 0, 1) := by decide +kernel
theorem dX12_load_161 : decode cX12_load 161 = .ok (.putfield 86, 3) := by decide +kernel
theorem dX12_load_164 : decode cX12_load 164 = .ok (.aload_n 0, 1) := by decide +kernel
theorem dX12_load_165 : decode cX12_load 165 = .ok (.getfield 138, 3) := by decide +kernel
theorem dX12_load_168 : decode cX12_load 168 = .ok (.ireturn, 1) := by decide +kernel
theorem dX12_fails_0 : decode cX12_fails 0 = .ok (.aload_n 0, 1) := by decide +kernel
theorem dX12_fails_1 : decode cX12_fails 1 = .ok (.iload_n 1, 1) := by decide +kernel
theorem dX12_fails_2 : decode cX12_fails 2 = .ok (.ifCond .eq 7, 3) := by decide +kernel
theorem dX12_fails_5 : decode cX12_fails 5 = .ok (.iconst 0, 1) := by decide +kernel
theorem dX12_fails_6 : decode cX12_fails 6 = .ok (.goto 4, 3) := by decide +kernel
theorem dX12_fails_9 : decode cX12_fails 9 = .ok (.iconst 1, 1) := by decide +kernel
theorem dX12_fails_10 : decode cX12_fails 10 = .ok (.putfield 83, 3) := by decide +kernel
theorem dX12_fails_13 : decode cX12_fails 13 = .ok (.iload_n 1, 1) := by decide +kernel
theorem dX12_fails_14 : decode cX12_fails 14 = .ok (.ifCond .ne 7, 3) := by decide +kernel
theorem dX12_fails_17 : decode cX12_fails 17 = .ok (.iconst 1, 1) := by decide +kernel
theorem dX12_fails_18 : decode cX12_fails 18 = .ok (.goto 4, 3) := by decide +kernel
theorem dX12_fails_21 : decode cX12_fails 21 = .ok (.iconst 0, 1) := by decide +kernel
theorem dX12_fails_22 : decode cX12_fails 22 = .ok (.ireturn, 1) := by decide +kernel
theorem dX12_counted_0 : decode cX12_counted 0 = .ok (.aload_n 0, 1) := by decide +kernel
theorem dX12_counted_1 : decode cX12_counted 1 = .ok (.iconst 0, 1) := by decide +kernel
theorem dX12_counted_2 : decode cX12_counted 2 = .ok (.putfield 83, 3) := by decide +kernel
theorem dX12_counted_5 : decode cX12_counted 5 = .ok (.aload_n 0, 1) := by decide +kernel
theorem dX12_counted_6 : decode cX12_counted 6 = .ok (.getfield 7, 3) := by decide +kernel
theorem dX12_counted_9 : decode cX12_counted 9 = .ok (.iload_n 1, 1) := by decide +kernel
theorem dX12_counted_10 : decode cX12_counted 10 = .ok (.iaload, 1) := by decide +kernel
theorem dX12_counted_11 : decode cX12_counted 11 = .ok (.ireturn, 1) := by decide +kernel
theorem dX12_width_0 : decode cX12_width 0 = .ok (.aload_n 0, 1) := by decide +kernel
theorem dX12_width_1 : decode cX12_width 1 = .ok (.iconst 0, 1) := by decide +kernel
theorem dX12_width_2 : decode cX12_width 2 = .ok (.invokevirtual 213, 3) := by decide +kernel
theorem dX12_width_5 : decode cX12_width 5 = .ok (.ireturn, 1) := by decide +kernel
theorem dX12_height_0 : decode cX12_height 0 = .ok (.aload_n 0, 1) := by decide +kernel
theorem dX12_height_1 : decode cX12_height 1 = .ok (.iconst 1, 1) := by decide +kernel
theorem dX12_height_2 : decode cX12_height 2 = .ok (.invokevirtual 213, 3) := by decide +kernel
theorem dX12_height_5 : decode cX12_height 5 = .ok (.ireturn, 1) := by decide +kernel
theorem dX12_frameCount_0 : decode cX12_frameCount 0 = .ok (.aload_n 0, 1) := by decide +kernel
theorem dX12_frameCount_1 : decode cX12_frameCount 1 = .ok (.iconst 2, 1) := by decide +kernel
theorem dX12_frameCount_2 : decode cX12_frameCount 2 = .ok (.invokevirtual 213, 3) := by decide +kernel
theorem dX12_frameCount_5 : decode cX12_frameCount 5 = .ok (.ireturn, 1) := by decide +kernel
theorem dX12_controlCount_0 : decode cX12_controlCount 0 = .ok (.aload_n 0, 1) := by decide +kernel
theorem dX12_controlCount_1 : decode cX12_controlCount 1 = .ok (.iconst 3, 1) := by decide +kernel
theorem dX12_controlCount_2 : decode cX12_controlCount 2 = .ok (.invokevirtual 213, 3) := by decide +kernel
theorem dX12_controlCount_5 : decode cX12_controlCount 5 = .ok (.ireturn, 1) := by decide +kernel
theorem dX12_featureCount_0 : decode cX12_featureCount 0 = .ok (.aload_n 0, 1) := by decide +kernel
theorem dX12_featureCount_1 : decode cX12_featureCount 1 = .ok (.iconst 4, 1) := by decide +kernel
theorem dX12_featureCount_2 : decode cX12_featureCount 2 = .ok (.invokevirtual 213, 3) := by decide +kernel
theorem dX12_featureCount_5 : decode cX12_featureCount 5 = .ok (.ireturn, 1) := by decide +kernel
theorem dX12_stakeCount_0 : decode cX12_stakeCount 0 = .ok (.aload_n 0, 1) := by decide +kernel
theorem dX12_stakeCount_1 : decode cX12_stakeCount 1 = .ok (.iconst 5, 1) := by decide +kernel
theorem dX12_stakeCount_2 : decode cX12_stakeCount 2 = .ok (.invokevirtual 213, 3) := by decide +kernel
theorem dX12_stakeCount_5 : decode cX12_stakeCount 5 = .ok (.ireturn, 1) := by decide +kernel
theorem dX12_setting_0 : decode cX12_setting 0 = .ok (.aload_n 0, 1) := by decide +kernel
theorem dX12_setting_1 : decode cX12_setting 1 = .ok (.getfield 7, 3) := by decide +kernel
theorem dX12_setting_4 : decode cX12_setting 4 = .ok (.bipush 83, 2) := by decide +kernel
theorem dX12_setting_6 : decode cX12_setting 6 = .ok (.iload_n 1, 1) := by decide +kernel
theorem dX12_setting_7 : decode cX12_setting 7 = .ok (.iadd, 1) := by decide +kernel
theorem dX12_setting_8 : decode cX12_setting 8 = .ok (.iaload, 1) := by decide +kernel
theorem dX12_setting_9 : decode cX12_setting 9 = .ok (.ireturn, 1) := by decide +kernel
theorem dX12_getSetting_0 : decode cX12_getSetting 0 = .ok (.aload_n 0, 1) := by decide +kernel
theorem dX12_getSetting_1 : decode cX12_getSetting 1 = .ok (.iconst 0, 1) := by decide +kernel
theorem dX12_getSetting_2 : decode cX12_getSetting 2 = .ok (.putfield 83, 3) := by decide +kernel
theorem dX12_getSetting_5 : decode cX12_getSetting 5 = .ok (.iload_n 1, 1) := by decide +kernel
theorem dX12_getSetting_6 : decode cX12_getSetting 6 = .ok (.iconst 0, 1) := by decide +kernel
theorem dX12_getSetting_7 : decode cX12_getSetting 7 = .ok (.bipush 7, 2) := by decide +kernel
theorem dX12_getSetting_9 : decode cX12_getSetting 9 = .ok (.invokestatic 119, 3) := by decide +kernel
theorem dX12_getSetting_12 : decode cX12_getSetting 12 = .ok (.ifCond .eq 11, 3) := by decide +kernel
theorem dX12_getSetting_15 : decode cX12_getSetting 15 = .ok (.aload_n 0, 1) := by decide +kernel
theorem dX12_getSetting_16 : decode cX12_getSetting 16 = .ok (.iload_n 1, 1) := by decide +kernel
theorem dX12_getSetting_17 : decode cX12_getSetting 17 = .ok (.invokevirtual 216, 3) := by decide +kernel
theorem dX12_getSetting_20 : decode cX12_getSetting 20 = .ok (.goto 5, 3) := by decide +kernel
theorem dX12_getSetting_23 : decode cX12_getSetting 23 = .ok (.bipush (-2), 2) := by decide +kernel
theorem dX12_getSetting_25 : decode cX12_getSetting 25 = .ok (.ireturn, 1) := by decide +kernel
theorem dX12_setSetting_0 : decode cX12_setSetting 0 = .ok (.aload_n 0, 1) := by decide +kernel
theorem dX12_setSetting_1 : decode cX12_setSetting 1 = .ok (.iconst 0, 1) := by decide +kernel
theorem dX12_setSetting_2 : decode cX12_setSetting 2 = .ok (.putfield 83, 3) := by decide +kernel
theorem dX12_setSetting_5 : decode cX12_setSetting 5 = .ok (.iload_n 1, 1) := by decide +kernel
theorem dX12_setSetting_6 : decode cX12_setSetting 6 = .ok (.iconst 0, 1) := by decide +kernel
theorem dX12_setSetting_7 : decode cX12_setSetting 7 = .ok (.bipush 7, 2) := by decide +kernel
theorem dX12_setSetting_9 : decode cX12_setSetting 9 = .ok (.invokestatic 119, 3) := by decide +kernel
theorem dX12_setSetting_12 : decode cX12_setSetting 12 = .ok (.ifCond .eq 18, 3) := by decide +kernel
theorem dX12_setSetting_15 : decode cX12_setSetting 15 = .ok (.iload_n 2, 1) := by decide +kernel
theorem dX12_setSetting_16 : decode cX12_setSetting 16 = .ok (.iload_n 1, 1) := by decide +kernel
theorem dX12_setSetting_17 : decode cX12_setSetting 17 = .ok (.invokestatic 175, 3) := by decide +kernel
theorem dX12_setSetting_20 : decode cX12_setSetting 20 = .ok (.iload_n 1, 1) := by decide +kernel
theorem dX12_setSetting_21 : decode cX12_setSetting 21 = .ok (.invokestatic 179, 3) := by decide +kernel
theorem dX12_setSetting_24 : decode cX12_setSetting 24 = .ok (.invokestatic 119, 3) := by decide +kernel
theorem dX12_setSetting_27 : decode cX12_setSetting 27 = .ok (.ifCond .ne 6, 3) := by decide +kernel
theorem dX12_setSetting_30 : decode cX12_setSetting 30 = .ok (.bipush (-2), 2) := by decide +kernel
theorem dX12_setSetting_32 : decode cX12_setSetting 32 = .ok (.ireturn, 1) := by decide +kernel
theorem dX12_setSetting_33 : decode cX12_setSetting 33 = .ok (.aload_n 0, 1) := by decide +kernel
theorem dX12_setSetting_34 : decode cX12_setSetting 34 = .ok (.invokevirtual 219, 3) := by decide +kernel
theorem dX12_setSetting_37 : decode cX12_setSetting 37 = .ok (.aload_n 0, 1) := by decide +kernel
theorem dX12_setSetting_38 : decode cX12_setSetting 38 = .ok (.iload_n 1, 1) := by decide +kernel
theorem dX12_setSetting_39 : decode cX12_setSetting 39 = .ok (.invokevirtual 216, 3) := by decide +kernel
theorem dX12_setSetting_42 : decode cX12_setSetting 42 = .ok (.istore_n 3, 1) := by decide +kernel
theorem dX12_setSetting_43 : decode cX12_setSetting 43 = .ok (.aload_n 0, 1) := by decide +kernel
theorem dX12_setSetting_44 : decode cX12_setSetting 44 = .ok (.getfield 7, 3) := by decide +kernel
theorem dX12_setSetting_47 : decode cX12_setSetting 47 = .ok (.bipush 83, 2) := by decide +kernel
theorem dX12_setSetting_49 : decode cX12_setSetting 49 = .ok (.iload_n 1, 1) := by decide +kernel
theorem dX12_setSetting_50 : decode cX12_setSetting 50 = .ok (.iadd, 1) := by decide +kernel
theorem dX12_setSetting_51 : decode cX12_setSetting 51 = .ok (.iload_n 2, 1) := by decide +kernel
theorem dX12_setSetting_52 : decode cX12_setSetting 52 = .ok (.iastore, 1) := by decide +kernel
theorem dX12_setSetting_53 : decode cX12_setSetting 53 = .ok (.iload_n 3, 1) := by decide +kernel
theorem dX12_setSetting_54 : decode cX12_setSetting 54 = .ok (.ireturn, 1) := by decide +kernel
theorem dX12_isFrame_0 : decode cX12_isFrame 0 = .ok (.iload_n 1, 1) := by decide +kernel
theorem dX12_isFrame_1 : decode cX12_isFrame 1 = .ok (.iconst 0, 1) := by decide +kernel
theorem dX12_isFrame_2 : decode cX12_isFrame 2 = .ok (.aload_n 0, 1) := by decide +kernel
theorem dX12_isFrame_3 : decode cX12_isFrame 3 = .ok (.getfield 7, 3) := by decide +kernel
theorem dX12_isFrame_6 : decode cX12_isFrame 6 = .ok (.iconst 2, 1) := by decide +kernel
theorem dX12_isFrame_7 : decode cX12_isFrame 7 = .ok (.iaload, 1) := by decide +kernel
theorem dX12_isFrame_8 : decode cX12_isFrame 8 = .ok (.iconst 1, 1) := by decide +kernel
theorem dX12_isFrame_9 : decode cX12_isFrame 9 = .ok (.isub, 1) := by decide +kernel
theorem dX12_isFrame_10 : decode cX12_isFrame 10 = .ok (.invokestatic 119, 3) := by decide +kernel
theorem dX12_isFrame_13 : decode cX12_isFrame 13 = .ok (.ireturn, 1) := by decide +kernel
theorem dX12_isFeature_0 : decode cX12_isFeature 0 = .ok (.iload_n 1, 1) := by decide +kernel
theorem dX12_isFeature_1 : decode cX12_isFeature 1 = .ok (.iconst 0, 1) := by decide +kernel
theorem dX12_isFeature_2 : decode cX12_isFeature 2 = .ok (.aload_n 0, 1) := by decide +kernel
theorem dX12_isFeature_3 : decode cX12_isFeature 3 = .ok (.getfield 7, 3) := by decide +kernel
theorem dX12_isFeature_6 : decode cX12_isFeature 6 = .ok (.iconst 4, 1) := by decide +kernel
theorem dX12_isFeature_7 : decode cX12_isFeature 7 = .ok (.iaload, 1) := by decide +kernel
theorem dX12_isFeature_8 : decode cX12_isFeature 8 = .ok (.iconst 1, 1) := by decide +kernel
theorem dX12_isFeature_9 : decode cX12_isFeature 9 = .ok (.isub, 1) := by decide +kernel
theorem dX12_isFeature_10 : decode cX12_isFeature 10 = .ok (.invokestatic 119, 3) := by decide +kernel
theorem dX12_isFeature_13 : decode cX12_isFeature 13 = .ok (.ireturn, 1) := by decide +kernel
theorem dX12_isStake_0 : decode cX12_isStake 0 = .ok (.iload_n 1, 1) := by decide +kernel
theorem dX12_isStake_1 : decode cX12_isStake 1 = .ok (.iconst 0, 1) := by decide +kernel
theorem dX12_isStake_2 : decode cX12_isStake 2 = .ok (.aload_n 0, 1) := by decide +kernel
theorem dX12_isStake_3 : decode cX12_isStake 3 = .ok (.getfield 7, 3) := by decide +kernel
theorem dX12_isStake_6 : decode cX12_isStake 6 = .ok (.iconst 5, 1) := by decide +kernel
theorem dX12_isStake_7 : decode cX12_isStake 7 = .ok (.iaload, 1) := by decide +kernel
theorem dX12_isStake_8 : decode cX12_isStake 8 = .ok (.iconst 1, 1) := by decide +kernel
theorem dX12_isStake_9 : decode cX12_isStake 9 = .ok (.isub, 1) := by decide +kernel
theorem dX12_isStake_10 : decode cX12_isStake 10 = .ok (.invokestatic 119, 3) := by decide +kernel
theorem dX12_isStake_13 : decode cX12_isStake 13 = .ok (.ireturn, 1) := by decide +kernel
theorem dX12_isPixel_0 : decode cX12_isPixel 0 = .ok (.iload_n 1, 1) := by decide +kernel
theorem dX12_isPixel_1 : decode cX12_isPixel 1 = .ok (.iconst 0, 1) := by decide +kernel
theorem dX12_isPixel_2 : decode cX12_isPixel 2 = .ok (.aload_n 0, 1) := by decide +kernel
theorem dX12_isPixel_3 : decode cX12_isPixel 3 = .ok (.getfield 7, 3) := by decide +kernel
theorem dX12_isPixel_6 : decode cX12_isPixel 6 = .ok (.iconst 0, 1) := by decide +kernel
theorem dX12_isPixel_7 : decode cX12_isPixel 7 = .ok (.iaload, 1) := by decide +kernel
theorem dX12_isPixel_8 : decode cX12_isPixel 8 = .ok (.iconst 1, 1) := by decide +kernel
theorem dX12_isPixel_9 : decode cX12_isPixel 9 = .ok (.isub, 1) := by decide +kernel
theorem dX12_isPixel_10 : decode cX12_isPixel 10 = .ok (.invokestatic 119, 3) := by decide +kernel
theorem dX12_isPixel_13 : decode cX12_isPixel 13 = .ok (.ifCond .eq 23, 3) := by decide +kernel
theorem dX12_isPixel_16 : decode cX12_isPixel 16 = .ok (.iload_n 2, 1) := by decide +kernel
theorem dX12_isPixel_17 : decode cX12_isPixel 17 = .ok (.iconst 0, 1) := by decide +kernel
theorem dX12_isPixel_18 : decode cX12_isPixel 18 = .ok (.aload_n 0, 1) := by decide +kernel
theorem dX12_isPixel_19 : decode cX12_isPixel 19 = .ok (.getfield 7, 3) := by decide +kernel
theorem dX12_isPixel_22 : decode cX12_isPixel 22 = .ok (.iconst 1, 1) := by decide +kernel
theorem dX12_isPixel_23 : decode cX12_isPixel 23 = .ok (.iaload, 1) := by decide +kernel
theorem dX12_isPixel_24 : decode cX12_isPixel 24 = .ok (.iconst 1, 1) := by decide +kernel
theorem dX12_isPixel_25 : decode cX12_isPixel 25 = .ok (.isub, 1) := by decide +kernel
theorem dX12_isPixel_26 : decode cX12_isPixel 26 = .ok (.invokestatic 119, 3) := by decide +kernel
theorem dX12_isPixel_29 : decode cX12_isPixel 29 = .ok (.ifCond .eq 7, 3) := by decide +kernel
theorem dX12_isPixel_32 : decode cX12_isPixel 32 = .ok (.iconst 1, 1) := by decide +kernel
theorem dX12_isPixel_33 : decode cX12_isPixel 33 = .ok (.goto 4, 3) := by decide +kernel
theorem dX12_isPixel_36 : decode cX12_isPixel 36 = .ok (.iconst 0, 1) := by decide +kernel
theorem dX12_isPixel_37 : decode cX12_isPixel 37 = .ok (.ireturn, 1) := by decide +kernel
theorem dX12_dayOf_0 : decode cX12_dayOf 0 = .ok (.aload_n 0, 1) := by decide +kernel
theorem dX12_dayOf_1 : decode cX12_dayOf 1 = .ok (.getfield 7, 3) := by decide +kernel
theorem dX12_dayOf_4 : decode cX12_dayOf 4 = .ok (.bipush 6, 2) := by decide +kernel
theorem dX12_dayOf_6 : decode cX12_dayOf 6 = .ok (.iload_n 1, 1) := by decide +kernel
theorem dX12_dayOf_7 : decode cX12_dayOf 7 = .ok (.iadd, 1) := by decide +kernel
theorem dX12_dayOf_8 : decode cX12_dayOf 8 = .ok (.iaload, 1) := by decide +kernel
theorem dX12_dayOf_9 : decode cX12_dayOf 9 = .ok (.ireturn, 1) := by decide +kernel
theorem dX12_brightness_0 : decode cX12_brightness 0 = .ok (.aload_n 0, 1) := by decide +kernel
theorem dX12_brightness_1 : decode cX12_brightness 1 = .ok (.getfield 7, 3) := by decide +kernel
theorem dX12_brightness_4 : decode cX12_brightness 4 = .ok (.bipush 91, 2) := by decide +kernel
theorem dX12_brightness_6 : decode cX12_brightness 6 = .ok (.bipush 120, 2) := by decide +kernel
theorem dX12_brightness_8 : decode cX12_brightness 8 = .ok (.iload_n 1, 1) := by decide +kernel
theorem dX12_brightness_9 : decode cX12_brightness 9 = .ok (.imul, 1) := by decide +kernel
theorem dX12_brightness_10 : decode cX12_brightness 10 = .ok (.iadd, 1) := by decide +kernel
theorem dX12_brightness_11 : decode cX12_brightness 11 = .ok (.bipush 12, 2) := by decide +kernel
theorem dX12_brightness_13 : decode cX12_brightness 13 = .ok (.iload_n 3, 1) := by decide +kernel
theorem dX12_brightness_14 : decode cX12_brightness 14 = .ok (.imul, 1) := by decide +kernel
theorem dX12_brightness_15 : decode cX12_brightness 15 = .ok (.iadd, 1) := by decide +kernel
theorem dX12_brightness_16 : decode cX12_brightness 16 = .ok (.iload_n 2, 1) := by decide +kernel
theorem dX12_brightness_17 : decode cX12_brightness 17 = .ok (.iadd, 1) := by decide +kernel
theorem dX12_brightness_18 : decode cX12_brightness 18 = .ok (.iaload, 1) := by decide +kernel
theorem dX12_brightness_19 : decode cX12_brightness 19 = .ok (.ireturn, 1) := by decide +kernel
theorem dX12_frameDay_0 : decode cX12_frameDay 0 = .ok (.aload_n 0, 1) := by decide +kernel
theorem dX12_frameDay_1 : decode cX12_frameDay 1 = .ok (.aload_n 0, 1) := by decide +kernel
theorem dX12_frameDay_2 : decode cX12_frameDay 2 = .ok (.iload_n 1, 1) := by decide +kernel
theorem dX12_frameDay_3 : decode cX12_frameDay 3 = .ok (.invokevirtual 222, 3) := by decide +kernel
theorem dX12_frameDay_6 : decode cX12_frameDay 6 = .ok (.invokevirtual 226, 3) := by decide +kernel
theorem dX12_frameDay_9 : decode cX12_frameDay 9 = .ok (.ifCond .eq 7, 3) := by decide +kernel
theorem dX12_frameDay_12 : decode cX12_frameDay 12 = .ok (.iconst 0, 1) := by decide +kernel
theorem dX12_frameDay_13 : decode cX12_frameDay 13 = .ok (.goto 8, 3) := by decide +kernel
theorem dX12_frameDay_16 : decode cX12_frameDay 16 = .ok (.aload_n 0, 1) := by decide +kernel
theorem dX12_frameDay_17 : decode cX12_frameDay 17 = .ok (.iload_n 1, 1) := by decide +kernel
theorem dX12_frameDay_18 : decode cX12_frameDay 18 = .ok (.invokevirtual 230, 3) := by decide +kernel
theorem dX12_frameDay_21 : decode cX12_frameDay 21 = .ok (.ireturn, 1) := by decide +kernel
theorem dX12_pixel_0 : decode cX12_pixel 0 = .ok (.aload_n 0, 1) := by decide +kernel
theorem dX12_pixel_1 : decode cX12_pixel 1 = .ok (.aload_n 0, 1) := by decide +kernel
theorem dX12_pixel_2 : decode cX12_pixel 2 = .ok (.iload_n 1, 1) := by decide +kernel
theorem dX12_pixel_3 : decode cX12_pixel 3 = .ok (.invokevirtual 222, 3) := by decide +kernel
theorem dX12_pixel_6 : decode cX12_pixel 6 = .ok (.ifCond .eq 16, 3) := by decide +kernel
theorem dX12_pixel_9 : decode cX12_pixel 9 = .ok (.aload_n 0, 1) := by decide +kernel
theorem dX12_pixel_10 : decode cX12_pixel 10 = .ok (.iload_n 2, 1) := by decide +kernel
theorem dX12_pixel_11 : decode cX12_pixel 11 = .ok (.iload_n 3, 1) := by decide +kernel
theorem dX12_pixel_12 : decode cX12_pixel 12 = .ok (.invokevirtual 233, 3) := by decide +kernel
theorem dX12_pixel_15 : decode cX12_pixel 15 = .ok (.ifCond .eq 7, 3) := by decide +kernel
theorem dX12_pixel_18 : decode cX12_pixel 18 = .ok (.iconst 1, 1) := by decide +kernel
theorem dX12_pixel_19 : decode cX12_pixel 19 = .ok (.goto 4, 3) := by decide +kernel
theorem dX12_pixel_22 : decode cX12_pixel 22 = .ok (.iconst 0, 1) := by decide +kernel
theorem dX12_pixel_23 : decode cX12_pixel 23 = .ok (.invokevirtual 226, 3) := by decide +kernel
theorem dX12_pixel_26 : decode cX12_pixel 26 = .ok (.ifCond .eq 7, 3) := by decide +kernel
theorem dX12_pixel_29 : decode cX12_pixel 29 = .ok (.iconst 0, 1) := by decide +kernel
theorem dX12_pixel_30 : decode cX12_pixel 30 = .ok (.goto 10, 3) := by decide +kernel
theorem dX12_pixel_33 : decode cX12_pixel 33 = .ok (.aload_n 0, 1) := by decide +kernel
theorem dX12_pixel_34 : decode cX12_pixel 34 = .ok (.iload_n 1, 1) := by decide +kernel
theorem dX12_pixel_35 : decode cX12_pixel 35 = .ok (.iload_n 2, 1) := by decide +kernel
theorem dX12_pixel_36 : decode cX12_pixel 36 = .ok (.iload_n 3, 1) := by decide +kernel
theorem dX12_pixel_37 : decode cX12_pixel 37 = .ok (.invokevirtual 237, 3) := by decide +kernel
theorem dX12_pixel_40 : decode cX12_pixel 40 = .ok (.ireturn, 1) := by decide +kernel
theorem dX12_setPixel_0 : decode cX12_setPixel 0 = .ok (.aload_n 0, 1) := by decide +kernel
theorem dX12_setPixel_1 : decode cX12_setPixel 1 = .ok (.iconst 0, 1) := by decide +kernel
theorem dX12_setPixel_2 : decode cX12_setPixel 2 = .ok (.putfield 83, 3) := by decide +kernel
theorem dX12_setPixel_5 : decode cX12_setPixel 5 = .ok (.aload_n 0, 1) := by decide +kernel
theorem dX12_setPixel_6 : decode cX12_setPixel 6 = .ok (.iload_n 1, 1) := by decide +kernel
theorem dX12_setPixel_7 : decode cX12_setPixel 7 = .ok (.invokevirtual 222, 3) := by decide +kernel
theorem dX12_setPixel_10 : decode cX12_setPixel 10 = .ok (.ifCond .eq 23, 3) := by decide +kernel
theorem dX12_setPixel_13 : decode cX12_setPixel 13 = .ok (.aload_n 0, 1) := by decide +kernel
theorem dX12_setPixel_14 : decode cX12_setPixel 14 = .ok (.iload_n 2, 1) := by decide +kernel
theorem dX12_setPixel_15 : decode cX12_setPixel 15 = .ok (.iload_n 3, 1) := by decide +kernel
theorem dX12_setPixel_16 : decode cX12_setPixel 16 = .ok (.invokevirtual 233, 3) := by decide +kernel
theorem dX12_setPixel_19 : decode cX12_setPixel 19 = .ok (.ifCond .eq 14, 3) := by decide +kernel
theorem dX12_setPixel_22 : decode cX12_setPixel 22 = .ok (.iload 4, 2) := by decide +kernel
theorem dX12_setPixel_24 : decode cX12_setPixel 24 = .ok (.iconst 0, 1) := by decide +kernel
theorem dX12_setPixel_25 : decode cX12_setPixel 25 = .ok (.bipush 9, 2) := by decide +kernel
theorem dX12_setPixel_27 : decode cX12_setPixel 27 = .ok (.invokestatic 119, 3) := by decide +kernel
theorem dX12_setPixel_30 : decode cX12_setPixel 30 = .ok (.ifCond .ne 5, 3) := by decide +kernel
theorem dX12_setPixel_33 : decode cX12_setPixel 33 = .ok (.iconst 0, 1) := by decide +kernel
theorem dX12_setPixel_34 : decode cX12_setPixel 34 = .ok (.ireturn, 1) := by decide +kernel
theorem dX12_setPixel_35 : decode cX12_setPixel 35 = .ok (.aload_n 0, 1) := by decide +kernel
theorem dX12_setPixel_36 : decode cX12_setPixel 36 = .ok (.invokevirtual 219, 3) := by decide +kernel
theorem dX12_setPixel_39 : decode cX12_setPixel 39 = .ok (.aload_n 0, 1) := by decide +kernel
theorem dX12_setPixel_40 : decode cX12_setPixel 40 = .ok (.getfield 7, 3) := by decide +kernel
theorem dX12_setPixel_43 : decode cX12_setPixel 43 = .ok (.bipush 91, 2) := by decide +kernel
theorem dX12_setPixel_45 : decode cX12_setPixel 45 = .ok (.bipush 120, 2) := by decide +kernel
theorem dX12_setPixel_47 : decode cX12_setPixel 47 = .ok (.iload_n 1, 1) := by decide +kernel
theorem dX12_setPixel_48 : decode cX12_setPixel 48 = .ok (.imul, 1) := by decide +kernel
theorem dX12_setPixel_49 : decode cX12_setPixel 49 = .ok (.iadd, 1) := by decide +kernel
theorem dX12_setPixel_50 : decode cX12_setPixel 50 = .ok (.bipush 12, 2) := by decide +kernel
theorem dX12_setPixel_52 : decode cX12_setPixel 52 = .ok (.iload_n 3, 1) := by decide +kernel
theorem dX12_setPixel_53 : decode cX12_setPixel 53 = .ok (.imul, 1) := by decide +kernel
theorem dX12_setPixel_54 : decode cX12_setPixel 54 = .ok (.iadd, 1) := by decide +kernel
theorem dX12_setPixel_55 : decode cX12_setPixel 55 = .ok (.iload_n 2, 1) := by decide +kernel
theorem dX12_setPixel_56 : decode cX12_setPixel 56 = .ok (.iadd, 1) := by decide +kernel
theorem dX12_setPixel_57 : decode cX12_setPixel 57 = .ok (.iload 4, 2) := by decide +kernel
theorem dX12_setPixel_59 : decode cX12_setPixel 59 = .ok (.iastore, 1) := by decide +kernel
theorem dX12_setPixel_60 : decode cX12_setPixel 60 = .ok (.iconst 1, 1) := by decide +kernel
theorem dX12_setPixel_61 : decode cX12_setPixel 61 = .ok (.ireturn, 1) := by decide +kernel
theorem dX12_removeFrame_0 : decode cX12_removeFrame 0 = .ok (.aload_n 0, 1) := by decide +kernel
theorem dX12_removeFrame_1 : decode cX12_removeFrame 1 = .ok (.iconst 0, 1) := by decide +kernel
theorem dX12_removeFrame_2 : decode cX12_removeFrame 2 = .ok (.putfield 83, 3) := by decide +kernel
theorem dX12_removeFrame_5 : decode cX12_removeFrame 5 = .ok (.aload_n 0, 1) := by decide +kernel
theorem dX12_removeFrame_6 : decode cX12_removeFrame 6 = .ok (.iload_n 1, 1) := by decide +kernel
theorem dX12_removeFrame_7 : decode cX12_removeFrame 7 = .ok (.invokevirtual 222, 3) := by decide +kernel
theorem dX12_removeFrame_10 : decode cX12_removeFrame 10 = .ok (.ifCond .ne 5, 3) := by decide +kernel
theorem dX12_removeFrame_13 : decode cX12_removeFrame 13 = .ok (.iconst (-1), 1) := by decide +kernel
theorem dX12_removeFrame_14 : decode cX12_removeFrame 14 = .ok (.ireturn, 1) := by decide +kernel
theorem dX12_removeFrame_15 : decode cX12_removeFrame 15 = .ok (.aload_n 0, 1) := by decide +kernel
theorem dX12_removeFrame_16 : decode cX12_removeFrame 16 = .ok (.invokevirtual 219, 3) := by decide +kernel
theorem dX12_removeFrame_19 : decode cX12_removeFrame 19 = .ok (.iload_n 1, 1) := by decide +kernel
theorem dX12_removeFrame_20 : decode cX12_removeFrame 20 = .ok (.istore_n 2, 1) := by decide +kernel
theorem dX12_removeFrame_21 : decode cX12_removeFrame 21 = .ok (.iload_n 2, 1) := by decide +kernel
theorem dX12_removeFrame_22 : decode cX12_removeFrame 22 = .ok (.iconst 1, 1) := by decide +kernel
theorem dX12_removeFrame_23 : decode cX12_removeFrame 23 = .ok (.iadd, 1) := by decide +kernel
theorem dX12_removeFrame_24 : decode cX12_removeFrame 24 = .ok (.aload_n 0, 1) := by decide +kernel
theorem dX12_removeFrame_25 : decode cX12_removeFrame 25 = .ok (.getfield 7, 3) := by decide +kernel
theorem dX12_removeFrame_28 : decode cX12_removeFrame 28 = .ok (.iconst 2, 1) := by decide +kernel
theorem dX12_removeFrame_29 : decode cX12_removeFrame 29 = .ok (.iaload, 1) := by decide +kernel
theorem dX12_removeFrame_30 : decode cX12_removeFrame 30 = .ok (.if_icmp .ge 71, 3) := by decide +kernel
theorem dX12_removeFrame_33 : decode cX12_removeFrame 33 = .ok (.aload_n 0, 1) := by decide +kernel
theorem dX12_removeFrame_34 : decode cX12_removeFrame 34 = .ok (.getfield 7, 3) := by decide +kernel
theorem dX12_removeFrame_37 : decode cX12_removeFrame 37 = .ok (.bipush 6, 2) := by decide +kernel
