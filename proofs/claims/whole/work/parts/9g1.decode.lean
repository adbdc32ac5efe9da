/-! decode rows of the helpers -/
theorem dL_frameDay_0 : decode cL_frameDay 0 = .ok (.aload_n 2, 1) := by decide +kernel
theorem dL_frameDay_1 : decode cL_frameDay 1 = .ok (.iconst 0, 1) := by decide +kernel
theorem dL_frameDay_2 : decode cL_frameDay 2 = .ok (.aload_n 0, 1) := by decide +kernel
theorem dL_frameDay_3 : decode cL_frameDay 3 = .ok (.iload_n 1, 1) := by decide +kernel
theorem dL_frameDay_4 : decode cL_frameDay 4 = .ok (.invokevirtual 7, 3) := by decide +kernel
theorem dL_frameDay_7 : decode cL_frameDay 7 = .ok (.i2l, 1) := by decide +kernel
theorem dL_frameDay_8 : decode cL_frameDay 8 = .ok (.lastore, 1) := by decide +kernel
theorem dL_frameDay_9 : decode cL_frameDay 9 = .ok (.goto 6, 3) := by decide +kernel
theorem dL_frameDay_12 : decode cL_frameDay 12 = .ok (.astore_n 3, 1) := by decide +kernel
theorem dL_frameDay_13 : decode cL_frameDay 13 = .ok (.iconst 1, 1) := by decide +kernel
theorem dL_frameDay_14 : decode cL_frameDay 14 = .ok (.ireturn, 1) := by decide +kernel
theorem dL_frameDay_15 : decode cL_frameDay 15 = .ok (.iconst 0, 1) := by decide +kernel
theorem dL_frameDay_16 : decode cL_frameDay 16 = .ok (.ireturn, 1) := by decide +kernel
theorem dL_pixel_0 : decode cL_pixel 0 = .ok (.aload 4, 2) := by decide +kernel
theorem dL_pixel_2 : decode cL_pixel 2 = .ok (.iconst 0, 1) := by decide +kernel
theorem dL_pixel_3 : decode cL_pixel 3 = .ok (.aload_n 0, 1) := by decide +kernel
theorem dL_pixel_4 : decode cL_pixel 4 = .ok (.iload_n 1, 1) := by decide +kernel
theorem dL_pixel_5 : decode cL_pixel 5 = .ok (.iload_n 2, 1) := by decide +kernel
theorem dL_pixel_6 : decode cL_pixel 6 = .ok (.iload_n 3, 1) := by decide +kernel
theorem dL_pixel_7 : decode cL_pixel 7 = .ok (.invokevirtual 15, 3) := by decide +kernel
theorem dL_pixel_10 : decode cL_pixel 10 = .ok (.i2l, 1) := by decide +kernel
theorem dL_pixel_11 : decode cL_pixel 11 = .ok (.lastore, 1) := by decide +kernel
theorem dL_pixel_12 : decode cL_pixel 12 = .ok (.goto 7, 3) := by decide +kernel
theorem dL_pixel_15 : decode cL_pixel 15 = .ok (.astore 5, 2) := by decide +kernel
theorem dL_pixel_17 : decode cL_pixel 17 = .ok (.iconst 1, 1) := by decide +kernel
theorem dL_pixel_18 : decode cL_pixel 18 = .ok (.ireturn, 1) := by decide +kernel
theorem dL_pixel_19 : decode cL_pixel 19 = .ok (.iconst 0, 1) := by decide +kernel
theorem dL_pixel_20 : decode cL_pixel 20 = .ok (.ireturn, 1) := by decide +kernel
theorem dL_contrast_0 : decode cL_contrast 0 = .ok (.aload_n 2, 1) := by decide +kernel
theorem dL_contrast_1 : decode cL_contrast 1 = .ok (.iconst 0, 1) := by decide +kernel
theorem dL_contrast_2 : decode cL_contrast 2 = .ok (.aload_n 0, 1) := by decide +kernel
theorem dL_contrast_3 : decode cL_contrast 3 = .ok (.iload_n 1, 1) := by decide +kernel
theorem dL_contrast_4 : decode cL_contrast 4 = .ok (.invokevirtual 19, 3) := by decide +kernel
theorem dL_contrast_7 : decode cL_contrast 7 = .ok (.i2l, 1) := by decide +kernel
theorem dL_contrast_8 : decode cL_contrast 8 = .ok (.lastore, 1) := by decide +kernel
theorem dL_contrast_9 : decode cL_contrast 9 = .ok (.goto 6, 3) := by decide +kernel
theorem dL_contrast_12 : decode cL_contrast 12 = .ok (.astore_n 3, 1) := by decide +kernel
theorem dL_contrast_13 : decode cL_contrast 13 = .ok (.iconst 1, 1) := by decide +kernel
theorem dL_contrast_14 : decode cL_contrast 14 = .ok (.ireturn, 1) := by decide +kernel
theorem dL_contrast_15 : decode cL_contrast 15 = .ok (.iconst 0, 1) := by decide +kernel
theorem dL_contrast_16 : decode cL_contrast 16 = .ok (.ireturn, 1) := by decide +kernel
theorem dL_isUsable_0 : decode cL_isUsable 0 = .ok (.aload_n 2, 1) := by decide +kernel
theorem dL_isUsable_1 : decode cL_isUsable 1 = .ok (.iconst 0, 1) := by decide +kernel
theorem dL_isUsable_2 : decode cL_isUsable 2 = .ok (.aload_n 0, 1) := by decide +kernel
theorem dL_isUsable_3 : decode cL_isUsable 3 = .ok (.iload_n 1, 1) := by decide +kernel
theorem dL_isUsable_4 : decode cL_isUsable 4 = .ok (.invokevirtual 22, 3) := by decide +kernel
theorem dL_isUsable_7 : decode cL_isUsable 7 = .ok (.ifCond .eq 7, 3) := by decide +kernel
theorem dL_isUsable_10 : decode cL_isUsable 10 = .ok (.lconst 1, 1) := by decide +kernel
theorem dL_isUsable_11 : decode cL_isUsable 11 = .ok (.goto 4, 3) := by decide +kernel
theorem dL_isUsable_14 : decode cL_isUsable 14 = .ok (.lconst 0, 1) := by decide +kernel
theorem dL_isUsable_15 : decode cL_isUsable 15 = .ok (.lastore, 1) := by decide +kernel
theorem dL_isUsable_16 : decode cL_isUsable 16 = .ok (.goto 6, 3) := by decide +kernel
theorem dL_isUsable_19 : decode cL_isUsable 19 = .ok (.astore_n 3, 1) := by decide +kernel
theorem dL_isUsable_20 : decode cL_isUsable 20 = .ok (.iconst 1, 1) := by decide +kernel
theorem dL_isUsable_21 : decode cL_isUsable 21 = .ok (.ireturn, 1) := by decide +kernel
theorem dL_isUsable_22 : decode cL_isUsable 22 = .ok (.iconst 0, 1) := by decide +kernel
theorem dL_isUsable_23 : decode cL_isUsable 23 = .ok (.ireturn, 1) := by decide +kernel
theorem dL_isOriented_0 : decode cL_isOriented 0 = .ok (.aload_n 2, 1) := by decide +kernel
theorem dL_isOriented_1 : decode cL_isOriented 1 = .ok (.iconst 0, 1) := by decide +kernel
theorem dL_isOriented_2 : decode cL_isOriented 2 = .ok (.aload_n 0, 1) := by decide +kernel
theorem dL_isOriented_3 : decode cL_isOriented 3 = .ok (.iload_n 1, 1) := by decide +kernel
theorem dL_isOriented_4 : decode cL_isOriented 4 = .ok (.invokevirtual 26, 3) := by decide +kernel
theorem dL_isOriented_7 : decode cL_isOriented 7 = .ok (.ifCond .eq 7, 3) := by decide +kernel
theorem dL_isOriented_10 : decode cL_isOriented 10 = .ok (.lconst 1, 1) := by decide +kernel
theorem dL_isOriented_11 : decode cL_isOriented 11 = .ok (.goto 4, 3) := by decide +kernel
theorem dL_isOriented_14 : decode cL_isOriented 14 = .ok (.lconst 0, 1) := by decide +kernel
theorem dL_isOriented_15 : decode cL_isOriented 15 = .ok (.lastore, 1) := by decide +kernel
theorem dL_isOriented_16 : decode cL_isOriented 16 = .ok (.goto 6, 3) := by decide +kernel
theorem dL_isOriented_19 : decode cL_isOriented 19 = .ok (.astore_n 3, 1) := by decide +kernel
theorem dL_isOriented_20 : decode cL_isOriented 20 = .ok (.iconst 1, 1) := by decide +kernel
theorem dL_isOriented_21 : decode cL_isOriented 21 = .ok (.ireturn, 1) := by decide +kernel
theorem dL_isOriented_22 : decode cL_isOriented 22 = .ok (.iconst 0, 1) := by decide +kernel
theorem dL_isOriented_23 : decode cL_isOriented 23 = .ok (.ireturn, 1) := by decide +kernel
theorem dL_shiftX_0 : decode cL_shiftX 0 = .ok (.aload_n 2, 1) := by decide +kernel
theorem dL_shiftX_1 : decode cL_shiftX 1 = .ok (.iconst 0, 1) := by decide +kernel
theorem dL_shiftX_2 : decode cL_shiftX 2 = .ok (.aload_n 0, 1) := by decide +kernel
theorem dL_shiftX_3 : decode cL_shiftX 3 = .ok (.iload_n 1, 1) := by decide +kernel
theorem dL_shiftX_4 : decode cL_shiftX 4 = .ok (.invokevirtual 29, 3) := by decide +kernel
theorem dL_shiftX_7 : decode cL_shiftX 7 = .ok (.i2l, 1) := by decide +kernel
theorem dL_shiftX_8 : decode cL_shiftX 8 = .ok (.lastore, 1) := by decide +kernel
theorem dL_shiftX_9 : decode cL_shiftX 9 = .ok (.goto 9, 3) := by decide +kernel
theorem dL_shiftX_12 : decode cL_shiftX 12 = .ok (.astore_n 3, 1) := by decide +kernel
theorem dL_shiftX_13 : decode cL_shiftX 13 = .ok (.iconst 1, 1) := by decide +kernel
theorem dL_shiftX_14 : decode cL_shiftX 14 = .ok (.ireturn, 1) := by decide +kernel
theorem dL_shiftX_15 : decode cL_shiftX 15 = .ok (.astore_n 3, 1) := by decide +kernel
theorem dL_shiftX_16 : decode cL_shiftX 16 = .ok (.iconst 2, 1) := by decide +kernel
theorem dL_shiftX_17 : decode cL_shiftX 17 = .ok (.ireturn, 1) := by decide +kernel
theorem dL_shiftX_18 : decode cL_shiftX 18 = .ok (.iconst 0, 1) := by decide +kernel
theorem dL_shiftX_19 : decode cL_shiftX 19 = .ok (.ireturn, 1) := by decide +kernel
theorem dL_shiftY_0 : decode cL_shiftY 0 = .ok (.aload_n 2, 1) := by decide +kernel
theorem dL_shiftY_1 : decode cL_shiftY 1 = .ok (.iconst 0, 1) := by decide +kernel
theorem dL_shiftY_2 : decode cL_shiftY 2 = .ok (.aload_n 0, 1) := by decide +kernel
theorem dL_shiftY_3 : decode cL_shiftY 3 = .ok (.iload_n 1, 1) := by decide +kernel
theorem dL_shiftY_4 : decode cL_shiftY 4 = .ok (.invokevirtual 34, 3) := by decide +kernel
theorem dL_shiftY_7 : decode cL_shiftY 7 = .ok (.i2l, 1) := by decide +kernel
theorem dL_shiftY_8 : decode cL_shiftY 8 = .ok (.lastore, 1) := by decide +kernel
theorem dL_shiftY_9 : decode cL_shiftY 9 = .ok (.goto 9, 3) := by decide +kernel
theorem dL_shiftY_12 : decode cL_shiftY 12 = .ok (.astore_n 3, 1) := by decide +kernel
theorem dL_shiftY_13 : decode cL_shiftY 13 = .ok (.iconst 1, 1) := by decide +kernel
theorem dL_shiftY_14 : decode cL_shiftY 14 = .ok (.ireturn, 1) := by decide +kernel
theorem dL_shiftY_15 : decode cL_shiftY 15 = .ok (.astore_n 3, 1) := by decide +kernel
theorem dL_shiftY_16 : decode cL_shiftY 16 = .ok (.iconst 2, 1) := by decide +kernel
theorem dL_shiftY_17 : decode cL_shiftY 17 = .ok (.ireturn, 1) := by decide +kernel
theorem dL_shiftY_18 : decode cL_shiftY 18 = .ok (.iconst 0, 1) := by decide +kernel
theorem dL_shiftY_19 : decode cL_shiftY 19 = .ok (.ireturn, 1) := by decide +kernel
theorem dL_shiftError_0 : decode cL_shiftError 0 = .ok (.aload_n 2, 1) := by decide +kernel
theorem dL_shiftError_1 : decode cL_shiftError 1 = .ok (.iconst 0, 1) := by decide +kernel
theorem dL_shiftError_2 : decode cL_shiftError 2 = .ok (.aload_n 0, 1) := by decide +kernel
theorem dL_shiftError_3 : decode cL_shiftError 3 = .ok (.iload_n 1, 1) := by decide +kernel
theorem dL_shiftError_4 : decode cL_shiftError 4 = .ok (.invokevirtual 37, 3) := by decide +kernel
theorem dL_shiftError_7 : decode cL_shiftError 7 = .ok (.i2l, 1) := by decide +kernel
theorem dL_shiftError_8 : decode cL_shiftError 8 = .ok (.lastore, 1) := by decide +kernel
theorem dL_shiftError_9 : decode cL_shiftError 9 = .ok (.goto 6, 3) := by decide +kernel
theorem dL_shiftError_12 : decode cL_shiftError 12 = .ok (.astore_n 3, 1) := by decide +kernel
theorem dL_shiftError_13 : decode cL_shiftError 13 = .ok (.iconst 1, 1) := by decide +kernel
theorem dL_shiftError_14 : decode cL_shiftError 14 = .ok (.ireturn, 1) := by decide +kernel
theorem dL_shiftError_15 : decode cL_shiftError 15 = .ok (.iconst 0, 1) := by decide +kernel
theorem dL_shiftError_16 : decode cL_shiftError 16 = .ok (.ireturn, 1) := by decide +kernel
theorem dL_match_0 : decode cL_match 0 = .ok (.aload 5, 2) := by decide +kernel
theorem dL_match_2 : decode cL_match 2 = .ok (.iconst 0, 1) := by decide +kernel
theorem dL_match_3 : decode cL_match 3 = .ok (.aload_n 0, 1) := by decide +kernel
theorem dL_match_4 : decode cL_match 4 = .ok (.iload_n 1, 1) := by decide +kernel
theorem dL_match_5 : decode cL_match 5 = .ok (.iload_n 2, 1) := by decide +kernel
theorem dL_match_6 : decode cL_match 6 = .ok (.iload_n 3, 1) := by decide +kernel
theorem dL_match_7 : decode cL_match 7 = .ok (.iload 4, 2) := by decide +kernel
theorem dL_match_9 : decode cL_match 9 = .ok (.invokevirtual 40, 3) := by decide +kernel
theorem dL_match_12 : decode cL_match 12 = .ok (.i2l, 1) := by decide +kernel
theorem dL_match_13 : decode cL_match 13 = .ok (.lastore, 1) := by decide +kernel
theorem dL_match_14 : decode cL_match 14 = .ok (.goto 7, 3) := by decide +kernel
theorem dL_match_17 : decode cL_match 17 = .ok (.astore 6, 2) := by decide +kernel
theorem dL_match_19 : decode cL_match 19 = .ok (.iconst 1, 1) := by decide +kernel
theorem dL_match_20 : decode cL_match 20 = .ok (.ireturn, 1) := by decide +kernel
theorem dL_match_21 : decode cL_match 21 = .ok (.iconst 0, 1) := by decide +kernel
theorem dL_match_22 : decode cL_match 22 = .ok (.ireturn, 1) := by decide +kernel
theorem dL_matchError_0 : decode cL_matchError 0 = .ok (.aload 5, 2) := by decide +kernel
theorem dL_matchError_2 : decode cL_matchError 2 = .ok (.iconst 0, 1) := by decide +kernel
theorem dL_matchError_3 : decode cL_matchError 3 = .ok (.aload_n 0, 1) := by decide +kernel
theorem dL_matchError_4 : decode cL_matchError 4 = .ok (.iload_n 1, 1) := by decide +kernel
theorem dL_matchError_5 : decode cL_matchError 5 = .ok (.iload_n 2, 1) := by decide +kernel
theorem dL_matchError_6 : decode cL_matchError 6 = .ok (.iload_n 3, 1) := by decide +kernel
theorem dL_matchError_7 : decode cL_matchError 7 = .ok (.iload 4, 2) := by decide +kernel
theorem dL_matchError_9 : decode cL_matchError 9 = .ok (.invokevirtual 44, 3) := by decide +kernel
theorem dL_matchError_12 : decode cL_matchError 12 = .ok (.i2l, 1) := by decide +kernel
theorem dL_matchError_13 : decode cL_matchError 13 = .ok (.lastore, 1) := by decide +kernel
theorem dL_matchError_14 : decode cL_matchError 14 = .ok (.goto 7, 3) := by decide +kernel
theorem dL_matchError_17 : decode cL_matchError 17 = .ok (.astore 6, 2) := by decide +kernel
theorem dL_matchError_19 : decode cL_matchError 19 = .ok (.iconst 1, 1) := by decide +kernel
theorem dL_matchError_20 : decode cL_matchError 20 = .ok (.ireturn, 1) := by decide +kernel
theorem dL_matchError_21 : decode cL_matchError 21 = .ok (.iconst 0, 1) := by decide +kernel
theorem dL_matchError_22 : decode cL_matchError 22 = .ok (.ireturn, 1) := by decide +kernel
theorem dL_matchMargin_0 : decode cL_matchMargin 0 = .ok (.aload 5, 2) := by decide +kernel
theorem dL_matchMargin_2 : decode cL_matchMargin 2 = .ok (.iconst 0, 1) := by decide +kernel
theorem dL_matchMargin_3 : decode cL_matchMargin 3 = .ok (.aload_n 0, 1) := by decide +kernel
theorem dL_matchMargin_4 : decode cL_matchMargin 4 = .ok (.iload_n 1, 1) := by decide +kernel
theorem dL_matchMargin_5 : decode cL_matchMargin 5 = .ok (.iload_n 2, 1) := by decide +kernel
theorem dL_matchMargin_6 : decode cL_matchMargin 6 = .ok (.iload_n 3, 1) := by decide +kernel
theorem dL_matchMargin_7 : decode cL_matchMargin 7 = .ok (.iload 4, 2) := by decide +kernel
theorem dL_matchMargin_9 : decode cL_matchMargin 9 = .ok (.invokevirtual 47, 3) := by decide +kernel
theorem dL_matchMargin_12 : decode cL_matchMargin 12 = .ok (.i2l, 1) := by decide +kernel
theorem dL_matchMargin_13 : decode cL_matchMargin 13 = .ok (.lastore, 1) := by decide +kernel
theorem dL_matchMargin_14 : decode cL_matchMargin 14 = .ok (.goto 7, 3) := by decide +kernel
theorem dL_matchMargin_17 : decode cL_matchMargin 17 = .ok (.astore 6, 2) := by decide +kernel
theorem dL_matchMargin_19 : decode cL_matchMargin 19 = .ok (.iconst 1, 1) := by decide +kernel
theorem dL_matchMargin_20 : decode cL_matchMargin 20 = .ok (.ireturn, 1) := by decide +kernel
theorem dL_matchMargin_21 : decode cL_matchMargin 21 = .ok (.iconst 0, 1) := by decide +kernel
theorem dL_matchMargin_22 : decode cL_matchMargin 22 = .ok (.ireturn, 1) := by decide +kernel
theorem dL_trackX_0 : decode cL_trackX 0 = .ok (.aload_n 3, 1) := by decide +kernel
theorem dL_trackX_1 : decode cL_trackX 1 = .ok (.iconst 0, 1) := by decide +kernel
theorem dL_trackX_2 : decode cL_trackX 2 = .ok (.aload_n 0, 1) := by decide +kernel
theorem dL_trackX_3 : decode cL_trackX 3 = .ok (.iload_n 1, 1) := by decide +kernel
theorem dL_trackX_4 : decode cL_trackX 4 = .ok (.iload_n 2, 1) := by decide +kernel
theorem dL_trackX_5 : decode cL_trackX 5 = .ok (.invokevirtual 50, 3) := by decide +kernel
theorem dL_trackX_8 : decode cL_trackX 8 = .ok (.i2l, 1) := by decide +kernel
theorem dL_trackX_9 : decode cL_trackX 9 = .ok (.lastore, 1) := by decide +kernel
theorem dL_trackX_10 : decode cL_trackX 10 = .ok (.goto 7, 3) := by decide +kernel
theorem dL_trackX_13 : decode cL_trackX 13 = .ok (.astore 4, 2) := by decide +kernel
theorem dL_trackX_15 : decode cL_trackX 15 = .ok (.iconst 1, 1) := by decide +kernel
theorem dL_trackX_16 : decode cL_trackX 16 = .ok (.ireturn, 1) := by decide +kernel
theorem dL_trackX_17 : decode cL_trackX 17 = .ok (.iconst 0, 1) := by decide +kernel
theorem dL_trackX_18 : decode cL_trackX 18 = .ok (.ireturn, 1) := by decide +kernel
theorem dL_trackY_0 : decode cL_trackY 0 = .ok (.aload_n 3, 1) := by decide +kernel
theorem dL_trackY_1 : decode cL_trackY 1 = .ok (.iconst 0, 1) := by decide +kernel
theorem dL_trackY_2 : decode cL_trackY 2 = .ok (.aload_n 0, 1) := by decide +kernel
theorem dL_trackY_3 : decode cL_trackY 3 = .ok (.iload_n 1, 1) := by decide +kernel
theorem dL_trackY_4 : decode cL_trackY 4 = .ok (.iload_n 2, 1) := by decide +kernel
theorem dL_trackY_5 : decode cL_trackY 5 = .ok (.invokevirtual 54, 3) := by decide +kernel
theorem dL_trackY_8 : decode cL_trackY 8 = .ok (.i2l, 1) := by decide +kernel
theorem dL_trackY_9 : decode cL_trackY 9 = .ok (.lastore, 1) := by decide +kernel
theorem dL_trackY_10 : decode cL_trackY 10 = .ok (.goto 7, 3) := by decide +kernel
theorem dL_trackY_13 : decode cL_trackY 13 = .ok (.astore 4, 2) := by decide +kernel
theorem dL_trackY_15 : decode cL_trackY 15 = .ok (.iconst 1, 1) := by decide +kernel
theorem dL_trackY_16 : decode cL_trackY 16 = .ok (.ireturn, 1) := by decide +kernel
theorem dL_trackY_17 : decode cL_trackY 17 = .ok (.iconst 0, 1) := by decide +kernel
theorem dL_trackY_18 : decode cL_trackY 18 = .ok (.ireturn, 1) := by decide +kernel
theorem dL_lostCount_0 : decode cL_lostCount 0 = .ok (.aload_n 2, 1) := by decide +kernel
theorem dL_lostCount_1 : decode cL_lostCount 1 = .ok (.iconst 0, 1) := by decide +kernel
theorem dL_lostCount_2 : decode cL_lostCount 2 = .ok (.aload_n 0, 1) := by decide +kernel
theorem dL_lostCount_3 : decode cL_lostCount 3 = .ok (.iload_n 1, 1) := by decide +kernel
theorem dL_lostCount_4 : decode cL_lostCount 4 = .ok (.invokevirtual 57, 3) := by decide +kernel
theorem dL_lostCount_7 : decode cL_lostCount 7 = .ok (.i2l, 1) := by decide +kernel
theorem dL_lostCount_8 : decode cL_lostCount 8 = .ok (.lastore, 1) := by decide +kernel
theorem dL_lostCount_9 : decode cL_lostCount 9 = .ok (.goto 6, 3) := by decide +kernel
theorem dL_lostCount_12 : decode cL_lostCount 12 = .ok (.astore_n 3, 1) := by decide +kernel
theorem dL_lostCount_13 : decode cL_lostCount 13 = .ok (.iconst 1, 1) := by decide +kernel
theorem dL_lostCount_14 : decode cL_lostCount 14 = .ok (.ireturn, 1) := by decide +kernel
theorem dL_lostCount_15 : decode cL_lostCount 15 = .ok (.iconst 0, 1) := by decide +kernel
theorem dL_lostCount_16 : decode cL_lostCount 16 = .ok (.ireturn, 1) := by decide +kernel
theorem dL_loopError_0 : decode cL_loopError 0 = .ok (.aload 4, 2) := by decide +kernel
theorem dL_loopError_2 : decode cL_loopError 2 = .ok (.iconst 0, 1) := by decide +kernel
theorem dL_loopError_3 : decode cL_loopError 3 = .ok (.aload_n 0, 1) := by decide +kernel
theorem dL_loopError_4 : decode cL_loopError 4 = .ok (.iload_n 1, 1) := by decide +kernel
theorem dL_loopError_5 : decode cL_loopError 5 = .ok (.iload_n 2, 1) := by decide +kernel
theorem dL_loopError_6 : decode cL_loopError 6 = .ok (.iload_n 3, 1) := by decide +kernel
theorem dL_loopError_7 : decode cL_loopError 7 = .ok (.invokevirtual 60, 3) := by decide +kernel
theorem dL_loopError_10 : decode cL_loopError 10 = .ok (.i2l, 1) := by decide +kernel
theorem dL_loopError_11 : decode cL_loopError 11 = .ok (.lastore, 1) := by decide +kernel
theorem dL_loopError_12 : decode cL_loopError 12 = .ok (.goto 7, 3) := by decide +kernel
theorem dL_loopError_15 : decode cL_loopError 15 = .ok (.astore 5, 2) := by decide +kernel
theorem dL_loopError_17 : decode cL_loopError 17 = .ok (.iconst 1, 1) := by decide +kernel
theorem dL_loopError_18 : decode cL_loopError 18 = .ok (.ireturn, 1) := by decide +kernel
theorem dL_loopError_19 : decode cL_loopError 19 = .ok (.iconst 0, 1) := by decide +kernel
theorem dL_loopError_20 : decode cL_loopError 20 = .ok (.ireturn, 1) := by decide +kernel
theorem dL_closedLoops_0 : decode cL_closedLoops 0 = .ok (.aload_n 2, 1) := by decide +kernel
theorem dL_closedLoops_1 : decode cL_closedLoops 1 = .ok (.iconst 0, 1) := by decide +kernel
theorem dL_closedLoops_2 : decode cL_closedLoops 2 = .ok (.aload_n 0, 1) := by decide +kernel
theorem dL_closedLoops_3 : decode cL_closedLoops 3 = .ok (.iload_n 1, 1) := by decide +kernel
theorem dL_closedLoops_4 : decode cL_closedLoops 4 = .ok (.invokevirtual 63, 3) := by decide +kernel
theorem dL_closedLoops_7 : decode cL_closedLoops 7 = .ok (.i2l, 1) := by decide +kernel
theorem dL_closedLoops_8 : decode cL_closedLoops 8 = .ok (.lastore, 1) := by decide +kernel
theorem dL_closedLoops_9 : decode cL_closedLoops 9 = .ok (.goto 6, 3) := by decide +kernel
theorem dL_closedLoops_12 : decode cL_closedLoops 12 = .ok (.astore_n 3, 1) := by decide +kernel
theorem dL_closedLoops_13 : decode cL_closedLoops 13 = .ok (.iconst 1, 1) := by decide +kernel
theorem dL_closedLoops_14 : decode cL_closedLoops 14 = .ok (.ireturn, 1) := by decide +kernel
theorem dL_closedLoops_15 : decode cL_closedLoops 15 = .ok (.iconst 0, 1) := by decide +kernel
theorem dL_closedLoops_16 : decode cL_closedLoops 16 = .ok (.ireturn, 1) := by decide +kernel
theorem dL_leastTolerance_0 : decode cL_leastTolerance 0 = .ok (.aload_n 2, 1) := by decide +kernel
theorem dL_leastTolerance_1 : decode cL_leastTolerance 1 = .ok (.iconst 0, 1) := by decide +kernel
theorem dL_leastTolerance_2 : decode cL_leastTolerance 2 = .ok (.aload_n 0, 1) := by decide +kernel
theorem dL_leastTolerance_3 : decode cL_leastTolerance 3 = .ok (.iload_n 1, 1) := by decide +kernel
theorem dL_leastTolerance_4 : decode cL_leastTolerance 4 = .ok (.invokevirtual 66, 3) := by decide +kernel
theorem dL_leastTolerance_7 : decode cL_leastTolerance 7 = .ok (.i2l, 1) := by decide +kernel
theorem dL_leastTolerance_8 : decode cL_leastTolerance 8 = .ok (.lastore, 1) := by decide +kernel
theorem dL_leastTolerance_9 : decode cL_leastTolerance 9 = .ok (.goto 6, 3) := by decide +kernel
theorem dL_leastTolerance_12 : decode cL_leastTolerance 12 = .ok (.astore_n 3, 1) := by decide +kernel
theorem dL_leastTolerance_13 : decode cL_leastTolerance 13 = .ok (.iconst 1, 1) := by decide +kernel
theorem dL_leastTolerance_14 : decode cL_leastTolerance 14 = .ok (.ireturn, 1) := by decide +kernel
theorem dL_leastTolerance_15 : decode cL_leastTolerance 15 = .ok (.iconst 0, 1) := by decide +kernel
theorem dL_leastTolerance_16 : decode cL_leastTolerance 16 = .ok (.ireturn, 1) := by decide +kernel
theorem dL_segmentCount_0 : decode cL_segmentCount 0 = .ok (.aload_n 2, 1) := by decide +kernel
theorem dL_segmentCount_1 : decode cL_segmentCount 1 = .ok (.iconst 0, 1) := by decide +kernel
theorem dL_segmentCount_2 : decode cL_segmentCount 2 = .ok (.aload_n 0, 1) := by decide +kernel
theorem dL_segmentCount_3 : decode cL_segmentCount 3 = .ok (.iload_n 1, 1) := by decide +kernel
theorem dL_segmentCount_4 : decode cL_segmentCount 4 = .ok (.invokevirtual 69, 3) := by decide +kernel
theorem dL_segmentCount_7 : decode cL_segmentCount 7 = .ok (.i2l, 1) := by decide +kernel
theorem dL_segmentCount_8 : decode cL_segmentCount 8 = .ok (.lastore, 1) := by decide +kernel
theorem dL_segmentCount_9 : decode cL_segmentCount 9 = .ok (.goto 6, 3) := by decide +kernel
theorem dL_segmentCount_12 : decode cL_segmentCount 12 = .ok (.astore_n 3, 1) := by decide +kernel
theorem dL_segmentCount_13 : decode cL_segmentCount 13 = .ok (.iconst 1, 1) := by decide +kernel
theorem dL_segmentCount_14 : decode cL_segmentCount 14 = .ok (.ireturn, 1) := by decide +kernel
theorem dL_segmentCount_15 : decode cL_segmentCount 15 = .ok (.iconst 0, 1) := by decide +kernel
theorem dL_segmentCount_16 : decode cL_segmentCount 16 = .ok (.ireturn, 1) := by decide +kernel
theorem dL_speed_0 : decode cL_speed 0 = .ok (.aload_n 3, 1) := by decide +kernel
theorem dL_speed_1 : decode cL_speed 1 = .ok (.iconst 0, 1) := by decide +kernel
theorem dL_speed_2 : decode cL_speed 2 = .ok (.aload_n 0, 1) := by decide +kernel
theorem dL_speed_3 : decode cL_speed 3 = .ok (.iload_n 1, 1) := by decide +kernel
theorem dL_speed_4 : decode cL_speed 4 = .ok (.iload_n 2, 1) := by decide +kernel
theorem dL_speed_5 : decode cL_speed 5 = .ok (.invokevirtual 72, 3) := by decide +kernel
theorem dL_speed_8 : decode cL_speed 8 = .ok (.i2l, 1) := by decide +kernel
theorem dL_speed_9 : decode cL_speed 9 = .ok (.lastore, 1) := by decide +kernel
theorem dL_speed_10 : decode cL_speed 10 = .ok (.goto 7, 3) := by decide +kernel
theorem dL_speed_13 : decode cL_speed 13 = .ok (.astore 4, 2) := by decide +kernel
theorem dL_speed_15 : decode cL_speed 15 = .ok (.iconst 1, 1) := by decide +kernel
theorem dL_speed_16 : decode cL_speed 16 = .ok (.ireturn, 1) := by decide +kernel
theorem dL_speed_17 : decode cL_speed 17 = .ok (.iconst 0, 1) := by decide +kernel
theorem dL_speed_18 : decode cL_speed 18 = .ok (.ireturn, 1) := by decide +kernel
theorem dL_meanSpeed_0 : decode cL_meanSpeed 0 = .ok (.aload_n 2, 1) := by decide +kernel
theorem dL_meanSpeed_1 : decode cL_meanSpeed 1 = .ok (.iconst 0, 1) := by decide +kernel
theorem dL_meanSpeed_2 : decode cL_meanSpeed 2 = .ok (.aload_n 0, 1) := by decide +kernel
theorem dL_meanSpeed_3 : decode cL_meanSpeed 3 = .ok (.iload_n 1, 1) := by decide +kernel
theorem dL_meanSpeed_4 : decode cL_meanSpeed 4 = .ok (.invokevirtual 75, 3) := by decide +kernel
theorem dL_meanSpeed_7 : decode cL_meanSpeed 7 = .ok (.i2l, 1) := by decide +kernel
theorem dL_meanSpeed_8 : decode cL_meanSpeed 8 = .ok (.lastore, 1) := by decide +kernel
theorem dL_meanSpeed_9 : decode cL_meanSpeed 9 = .ok (.goto 6, 3) := by decide +kernel
theorem dL_meanSpeed_12 : decode cL_meanSpeed 12 = .ok (.astore_n 3, 1) := by decide +kernel
theorem dL_meanSpeed_13 : decode cL_meanSpeed 13 = .ok (.iconst 1, 1) := by decide +kernel
theorem dL_meanSpeed_14 : decode cL_meanSpeed 14 = .ok (.ireturn, 1) := by decide +kernel
theorem dL_meanSpeed_15 : decode cL_meanSpeed 15 = .ok (.iconst 0, 1) := by decide +kernel
theorem dL_meanSpeed_16 : decode cL_meanSpeed 16 = .ok (.ireturn, 1) := by decide +kernel
theorem dL_meanSpeedWithScale_0 : decode cL_meanSpeedWithScale 0 = .ok (.aload_n 3, 1) := by decide +kernel
theorem dL_meanSpeedWithScale_1 : decode cL_meanSpeedWithScale 1 = .ok (.iconst 0, 1) := by decide +kernel
theorem dL_meanSpeedWithScale_2 : decode cL_meanSpeedWithScale 2 = .ok (.aload_n 0, 1) := by decide +kernel
theorem dL_meanSpeedWithScale_3 : decode cL_meanSpeedWithScale 3 = .ok (.iload_n 1, 1) := by decide +kernel
theorem dL_meanSpeedWithScale_4 : decode cL_meanSpeedWithScale 4 = .ok (.iload_n 2, 1) := by decide +kernel
theorem dL_meanSpeedWithScale_5 : decode cL_meanSpeedWithScale 5 = .ok (.invokevirtual 78, 3) := by decide +kernel
theorem dL_meanSpeedWithScale_8 : decode cL_meanSpeedWithScale 8 = .ok (.i2l, 1) := by decide +kernel
theorem dL_meanSpeedWithScale_9 : decode cL_meanSpeedWithScale 9 = .ok (.lastore, 1) := by decide +kernel
theorem dL_meanSpeedWithScale_10 : decode cL_meanSpeedWithScale 10 = .ok (.goto 7, 3) := by decide +kernel
theorem dL_meanSpeedWithScale_13 : decode cL_meanSpeedWithScale 13 = .ok (.astore 4, 2) := by decide +kernel
theorem dL_meanSpeedWithScale_15 : decode cL_meanSpeedWithScale 15 = .ok (.iconst 1, 1) := by decide +kernel
theorem dL_meanSpeedWithScale_16 : decode cL_meanSpeedWithScale 16 = .ok (.ireturn, 1) := by decide +kernel
theorem dL_meanSpeedWithScale_17 : decode cL_meanSpeedWithScale 17 = .ok (.iconst 0, 1) := by decide +kernel
theorem dL_meanSpeedWithScale_18 : decode cL_meanSpeedWithScale 18 = .ok (.ireturn, 1) := by decide +kernel
theorem dL_surgeCount_0 : decode cL_surgeCount 0 = .ok (.aload_n 2, 1) := by decide +kernel
theorem dL_surgeCount_1 : decode cL_surgeCount 1 = .ok (.iconst 0, 1) := by decide +kernel
theorem dL_surgeCount_2 : decode cL_surgeCount 2 = .ok (.aload_n 0, 1) := by decide +kernel
theorem dL_surgeCount_3 : decode cL_surgeCount 3 = .ok (.iload_n 1, 1) := by decide +kernel
theorem dL_surgeCount_4 : decode cL_surgeCount 4 = .ok (.invokevirtual 81, 3) := by decide +kernel
theorem dL_surgeCount_7 : decode cL_surgeCount 7 = .ok (.i2l, 1) := by decide +kernel
theorem dL_surgeCount_8 : decode cL_surgeCount 8 = .ok (.lastore, 1) := by decide +kernel
theorem dL_surgeCount_9 : decode cL_surgeCount 9 = .ok (.goto 6, 3) := by decide +kernel
theorem dL_surgeCount_12 : decode cL_surgeCount 12 = .ok (.astore_n 3, 1) := by decide +kernel
theorem dL_surgeCount_13 : decode cL_surgeCount 13 = .ok (.iconst 1, 1) := by decide +kernel
theorem dL_surgeCount_14 : decode cL_surgeCount 14 = .ok (.ireturn, 1) := by decide +kernel
theorem dL_surgeCount_15 : decode cL_surgeCount 15 = .ok (.iconst 0, 1) := by decide +kernel
theorem dL_surgeCount_16 : decode cL_surgeCount 16 = .ok (.ireturn, 1) := by decide +kernel
theorem dL_surgeStart_0 : decode cL_surgeStart 0 = .ok (.aload_n 3, 1) := by decide +kernel
theorem dL_surgeStart_1 : decode cL_surgeStart 1 = .ok (.iconst 0, 1) := by decide +kernel
theorem dL_surgeStart_2 : decode cL_surgeStart 2 = .ok (.aload_n 0, 1) := by decide +kernel
theorem dL_surgeStart_3 : decode cL_surgeStart 3 = .ok (.iload_n 1, 1) := by decide +kernel
theorem dL_surgeStart_4 : decode cL_surgeStart 4 = .ok (.iload_n 2, 1) := by decide +kernel
theorem dL_surgeStart_5 : decode cL_surgeStart 5 = .ok (.invokevirtual 84, 3) := by decide +kernel
theorem dL_surgeStart_8 : decode cL_surgeStart 8 = .ok (.i2l, 1) := by decide +kernel
theorem dL_surgeStart_9 : decode cL_surgeStart 9 = .ok (.lastore, 1) := by decide +kernel
theorem dL_surgeStart_10 : decode cL_surgeStart 10 = .ok (.goto 7, 3) := by decide +kernel
theorem dL_surgeStart_13 : decode cL_surgeStart 13 = .ok (.astore 4, 2) := by decide +kernel
theorem dL_surgeStart_15 : decode cL_surgeStart 15 = .ok (.iconst 1, 1) := by decide +kernel
theorem dL_surgeStart_16 : decode cL_surgeStart 16 = .ok (.ireturn, 1) := by decide +kernel
theorem dL_surgeStart_17 : decode cL_surgeStart 17 = .ok (.iconst 0, 1) := by decide +kernel
theorem dL_surgeStart_18 : decode cL_surgeStart 18 = .ok (.ireturn, 1) := by decide +kernel
theorem dL_surgeDays_0 : decode cL_surgeDays 0 = .ok (.aload_n 3, 1) := by decide +kernel
theorem dL_surgeDays_1 : decode cL_surgeDays 1 = .ok (.iconst 0, 1) := by decide +kernel
theorem dL_surgeDays_2 : decode cL_surgeDays 2 = .ok (.aload_n 0, 1) := by decide +kernel
theorem dL_surgeDays_3 : decode cL_surgeDays 3 = .ok (.iload_n 1, 1) := by decide +kernel
theorem dL_surgeDays_4 : decode cL_surgeDays 4 = .ok (.iload_n 2, 1) := by decide +kernel
theorem dL_surgeDays_5 : decode cL_surgeDays 5 = .ok (.invokevirtual 87, 3) := by decide +kernel
theorem dL_surgeDays_8 : decode cL_surgeDays 8 = .ok (.i2l, 1) := by decide +kernel
theorem dL_surgeDays_9 : decode cL_surgeDays 9 = .ok (.lastore, 1) := by decide +kernel
theorem dL_surgeDays_10 : decode cL_surgeDays 10 = .ok (.goto 7, 3) := by decide +kernel
theorem dL_surgeDays_13 : decode cL_surgeDays 13 = .ok (.astore 4, 2) := by decide +kernel
theorem dL_surgeDays_15 : decode cL_surgeDays 15 = .ok (.iconst 1, 1) := by decide +kernel
theorem dL_surgeDays_16 : decode cL_surgeDays 16 = .ok (.ireturn, 1) := by decide +kernel
theorem dL_surgeDays_17 : decode cL_surgeDays 17 = .ok (.iconst 0, 1) := by decide +kernel
theorem dL_surgeDays_18 : decode cL_surgeDays 18 = .ok (.ireturn, 1) := by decide +kernel
theorem dL_positionX_0 : decode cL_positionX 0 = .ok (.aload_n 3, 1) := by decide +kernel
theorem dL_positionX_1 : decode cL_positionX 1 = .ok (.iconst 0, 1) := by decide +kernel
theorem dL_positionX_2 : decode cL_positionX 2 = .ok (.aload_n 0, 1) := by decide +kernel
theorem dL_positionX_3 : decode cL_positionX 3 = .ok (.iload_n 1, 1) := by decide +kernel
theorem dL_positionX_4 : decode cL_positionX 4 = .ok (.iload_n 2, 1) := by decide +kernel
theorem dL_positionX_5 : decode cL_positionX 5 = .ok (.invokevirtual 90, 3) := by decide +kernel
theorem dL_positionX_8 : decode cL_positionX 8 = .ok (.i2l, 1) := by decide +kernel
theorem dL_positionX_9 : decode cL_positionX 9 = .ok (.lastore, 1) := by decide +kernel
theorem dL_positionX_10 : decode cL_positionX 10 = .ok (.goto 7, 3) := by decide +kernel
theorem dL_positionX_13 : decode cL_positionX 13 = .ok (.astore 4, 2) := by decide +kernel
theorem dL_positionX_15 : decode cL_positionX 15 = .ok (.iconst 1, 1) := by decide +kernel
theorem dL_positionX_16 : decode cL_positionX 16 = .ok (.ireturn, 1) := by decide +kernel
theorem dL_positionX_17 : decode cL_positionX 17 = .ok (.iconst 0, 1) := by decide +kernel
theorem dL_positionX_18 : decode cL_positionX 18 = .ok (.ireturn, 1) := by decide +kernel
theorem dL_positionY_0 : decode cL_positionY 0 = .ok (.aload_n 3, 1) := by decide +kernel
theorem dL_positionY_1 : decode cL_positionY 1 = .ok (.iconst 0, 1) := by decide +kernel
theorem dL_positionY_2 : decode cL_positionY 2 = .ok (.aload_n 0, 1) := by decide +kernel
theorem dL_positionY_3 : decode cL_positionY 3 = .ok (.iload_n 1, 1) := by decide +kernel
theorem dL_positionY_4 : decode cL_positionY 4 = .ok (.iload_n 2, 1) := by decide +kernel
theorem dL_positionY_5 : decode cL_positionY 5 = .ok (.invokevirtual 93, 3) := by decide +kernel
theorem dL_positionY_8 : decode cL_positionY 8 = .ok (.i2l, 1) := by decide +kernel
theorem dL_positionY_9 : decode cL_positionY 9 = .ok (.lastore, 1) := by decide +kernel
theorem dL_positionY_10 : decode cL_positionY 10 = .ok (.goto 7, 3) := by decide +kernel
theorem dL_positionY_13 : decode cL_positionY 13 = .ok (.astore 4, 2) := by decide +kernel
theorem dL_positionY_15 : decode cL_positionY 15 = .ok (.iconst 1, 1) := by decide +kernel
theorem dL_positionY_16 : decode cL_positionY 16 = .ok (.ireturn, 1) := by decide +kernel
theorem dL_positionY_17 : decode cL_positionY 17 = .ok (.iconst 0, 1) := by decide +kernel
theorem dL_positionY_18 : decode cL_positionY 18 = .ok (.ireturn, 1) := by decide +kernel
theorem dL_readingCount_0 : decode cL_readingCount 0 = .ok (.aload_n 2, 1) := by decide +kernel
theorem dL_readingCount_1 : decode cL_readingCount 1 = .ok (.iconst 0, 1) := by decide +kernel
theorem dL_readingCount_2 : decode cL_readingCount 2 = .ok (.aload_n 0, 1) := by decide +kernel
theorem dL_readingCount_3 : decode cL_readingCount 3 = .ok (.iload_n 1, 1) := by decide +kernel
theorem dL_readingCount_4 : decode cL_readingCount 4 = .ok (.invokevirtual 96, 3) := by decide +kernel
theorem dL_readingCount_7 : decode cL_readingCount 7 = .ok (.i2l, 1) := by decide +kernel
theorem dL_readingCount_8 : decode cL_readingCount 8 = .ok (.lastore, 1) := by decide +kernel
theorem dL_readingCount_9 : decode cL_readingCount 9 = .ok (.goto 6, 3) := by decide +kernel
theorem dL_readingCount_12 : decode cL_readingCount 12 = .ok (.astore_n 3, 1) := by decide +kernel
theorem dL_readingCount_13 : decode cL_readingCount 13 = .ok (.iconst 1, 1) := by decide +kernel
theorem dL_readingCount_14 : decode cL_readingCount 14 = .ok (.ireturn, 1) := by decide +kernel
theorem dL_readingCount_15 : decode cL_readingCount 15 = .ok (.iconst 0, 1) := by decide +kernel
theorem dL_readingCount_16 : decode cL_readingCount 16 = .ok (.ireturn, 1) := by decide +kernel
theorem dL_readingDay_0 : decode cL_readingDay 0 = .ok (.aload_n 3, 1) := by decide +kernel
theorem dL_readingDay_1 : decode cL_readingDay 1 = .ok (.iconst 0, 1) := by decide +kernel
theorem dL_readingDay_2 : decode cL_readingDay 2 = .ok (.aload_n 0, 1) := by decide +kernel
theorem dL_readingDay_3 : decode cL_readingDay 3 = .ok (.iload_n 1, 1) := by decide +kernel
theorem dL_readingDay_4 : decode cL_readingDay 4 = .ok (.iload_n 2, 1) := by decide +kernel
theorem dL_readingDay_5 : decode cL_readingDay 5 = .ok (.invokevirtual 99, 3) := by decide +kernel
theorem dL_readingDay_8 : decode cL_readingDay 8 = .ok (.i2l, 1) := by decide +kernel
theorem dL_readingDay_9 : decode cL_readingDay 9 = .ok (.lastore, 1) := by decide +kernel
theorem dL_readingDay_10 : decode cL_readingDay 10 = .ok (.goto 7, 3) := by decide +kernel
theorem dL_readingDay_13 : decode cL_readingDay 13 = .ok (.astore 4, 2) := by decide +kernel
theorem dL_readingDay_15 : decode cL_readingDay 15 = .ok (.iconst 1, 1) := by decide +kernel
theorem dL_readingDay_16 : decode cL_readingDay 16 = .ok (.ireturn, 1) := by decide +kernel
theorem dL_readingDay_17 : decode cL_readingDay 17 = .ok (.iconst 0, 1) := by decide +kernel
theorem dL_readingDay_18 : decode cL_readingDay 18 = .ok (.ireturn, 1) := by decide +kernel
theorem dL_readingLength_0 : decode cL_readingLength 0 = .ok (.aload_n 3, 1) := by decide +kernel
theorem dL_readingLength_1 : decode cL_readingLength 1 = .ok (.iconst 0, 1) := by decide +kernel
theorem dL_readingLength_2 : decode cL_readingLength 2 = .ok (.aload_n 0, 1) := by decide +kernel
theorem dL_readingLength_3 : decode cL_readingLength 3 = .ok (.iload_n 1, 1) := by decide +kernel
theorem dL_readingLength_4 : decode cL_readingLength 4 = .ok (.iload_n 2, 1) := by decide +kernel
theorem dL_readingLength_5 : decode cL_readingLength 5 = .ok (.invokevirtual 102, 3) := by decide +kernel
theorem dL_readingLength_8 : decode cL_readingLength 8 = .ok (.i2l, 1) := by decide +kernel
theorem dL_readingLength_9 : decode cL_readingLength 9 = .ok (.lastore, 1) := by decide +kernel
theorem dL_readingLength_10 : decode cL_readingLength 10 = .ok (.goto 7, 3) := by decide +kernel
theorem dL_readingLength_13 : decode cL_readingLength 13 = .ok (.astore 4, 2) := by decide +kernel
theorem dL_readingLength_15 : decode cL_readingLength 15 = .ok (.iconst 1, 1) := by decide +kernel
theorem dL_readingLength_16 : decode cL_readingLength 16 = .ok (.ireturn, 1) := by decide +kernel
theorem dL_readingLength_17 : decode cL_readingLength 17 = .ok (.iconst 0, 1) := by decide +kernel
theorem dL_readingLength_18 : decode cL_readingLength 18 = .ok (.ireturn, 1) := by decide +kernel
theorem dL_drillCount_0 : decode cL_drillCount 0 = .ok (.aload_n 2, 1) := by decide +kernel
theorem dL_drillCount_1 : decode cL_drillCount 1 = .ok (.iconst 0, 1) := by decide +kernel
theorem dL_drillCount_2 : decode cL_drillCount 2 = .ok (.aload_n 0, 1) := by decide +kernel
theorem dL_drillCount_3 : decode cL_drillCount 3 = .ok (.iload_n 1, 1) := by decide +kernel
theorem dL_drillCount_4 : decode cL_drillCount 4 = .ok (.invokevirtual 105, 3) := by decide +kernel
theorem dL_drillCount_7 : decode cL_drillCount 7 = .ok (.i2l, 1) := by decide +kernel
theorem dL_drillCount_8 : decode cL_drillCount 8 = .ok (.lastore, 1) := by decide +kernel
theorem dL_drillCount_9 : decode cL_drillCount 9 = .ok (.goto 6, 3) := by decide +kernel
theorem dL_drillCount_12 : decode cL_drillCount 12 = .ok (.astore_n 3, 1) := by decide +kernel
theorem dL_drillCount_13 : decode cL_drillCount 13 = .ok (.iconst 1, 1) := by decide +kernel
theorem dL_drillCount_14 : decode cL_drillCount 14 = .ok (.ireturn, 1) := by decide +kernel
theorem dL_drillCount_15 : decode cL_drillCount 15 = .ok (.iconst 0, 1) := by decide +kernel
theorem dL_drillCount_16 : decode cL_drillCount 16 = .ok (.ireturn, 1) := by decide +kernel
theorem dL_meltTo_0 : decode cL_meltTo 0 = .ok (.aload_n 3, 1) := by decide +kernel
theorem dL_meltTo_1 : decode cL_meltTo 1 = .ok (.iconst 0, 1) := by decide +kernel
theorem dL_meltTo_2 : decode cL_meltTo 2 = .ok (.aload_n 0, 1) := by decide +kernel
theorem dL_meltTo_3 : decode cL_meltTo 3 = .ok (.iload_n 1, 1) := by decide +kernel
theorem dL_meltTo_4 : decode cL_meltTo 4 = .ok (.iload_n 2, 1) := by decide +kernel
theorem dL_meltTo_5 : decode cL_meltTo 5 = .ok (.invokevirtual 108, 3) := by decide +kernel
theorem dL_meltTo_8 : decode cL_meltTo 8 = .ok (.i2l, 1) := by decide +kernel
theorem dL_meltTo_9 : decode cL_meltTo 9 = .ok (.lastore, 1) := by decide +kernel
theorem dL_meltTo_10 : decode cL_meltTo 10 = .ok (.goto 7, 3) := by decide +kernel
theorem dL_meltTo_13 : decode cL_meltTo 13 = .ok (.astore 4, 2) := by decide +kernel
theorem dL_meltTo_15 : decode cL_meltTo 15 = .ok (.iconst 1, 1) := by decide +kernel
theorem dL_meltTo_16 : decode cL_meltTo 16 = .ok (.ireturn, 1) := by decide +kernel
theorem dL_meltTo_17 : decode cL_meltTo 17 = .ok (.iconst 0, 1) := by decide +kernel
theorem dL_meltTo_18 : decode cL_meltTo 18 = .ok (.ireturn, 1) := by decide +kernel
theorem dL_melt_0 : decode cL_melt 0 = .ok (.aload 4, 2) := by decide +kernel
theorem dL_melt_2 : decode cL_melt 2 = .ok (.iconst 0, 1) := by decide +kernel
theorem dL_melt_3 : decode cL_melt 3 = .ok (.aload_n 0, 1) := by decide +kernel
theorem dL_melt_4 : decode cL_melt 4 = .ok (.iload_n 1, 1) := by decide +kernel
theorem dL_melt_5 : decode cL_melt 5 = .ok (.iload_n 2, 1) := by decide +kernel
theorem dL_melt_6 : decode cL_melt 6 = .ok (.iload_n 3, 1) := by decide +kernel
theorem dL_melt_7 : decode cL_melt 7 = .ok (.invokevirtual 111, 3) := by decide +kernel
theorem dL_melt_10 : decode cL_melt 10 = .ok (.i2l, 1) := by decide +kernel
theorem dL_melt_11 : decode cL_melt 11 = .ok (.lastore, 1) := by decide +kernel
theorem dL_melt_12 : decode cL_melt 12 = .ok (.goto 7, 3) := by decide +kernel
theorem dL_melt_15 : decode cL_melt 15 = .ok (.astore 5, 2) := by decide +kernel
theorem dL_melt_17 : decode cL_melt 17 = .ok (.iconst 1, 1) := by decide +kernel
theorem dL_melt_18 : decode cL_melt 18 = .ok (.ireturn, 1) := by decide +kernel
theorem dL_melt_19 : decode cL_melt 19 = .ok (.iconst 0, 1) := by decide +kernel
theorem dL_melt_20 : decode cL_melt 20 = .ok (.ireturn, 1) := by decide +kernel
theorem dL_warmestInterval_0 : decode cL_warmestInterval 0 = .ok (.aload_n 2, 1) := by decide +kernel
theorem dL_warmestInterval_1 : decode cL_warmestInterval 1 = .ok (.iconst 0, 1) := by decide +kernel
theorem dL_warmestInterval_2 : decode cL_warmestInterval 2 = .ok (.aload_n 0, 1) := by decide +kernel
theorem dL_warmestInterval_3 : decode cL_warmestInterval 3 = .ok (.iload_n 1, 1) := by decide +kernel
theorem dL_warmestInterval_4 : decode cL_warmestInterval 4 = .ok (.invokevirtual 114, 3) := by decide +kernel
theorem dL_warmestInterval_7 : decode cL_warmestInterval 7 = .ok (.i2l, 1) := by decide +kernel
theorem dL_warmestInterval_8 : decode cL_warmestInterval 8 = .ok (.lastore, 1) := by decide +kernel
theorem dL_warmestInterval_9 : decode cL_warmestInterval 9 = .ok (.goto 6, 3) := by decide +kernel
theorem dL_warmestInterval_12 : decode cL_warmestInterval 12 = .ok (.astore_n 3, 1) := by decide +kernel
theorem dL_warmestInterval_13 : decode cL_warmestInterval 13 = .ok (.iconst 1, 1) := by decide +kernel
theorem dL_warmestInterval_14 : decode cL_warmestInterval 14 = .ok (.ireturn, 1) := by decide +kernel
theorem dL_warmestInterval_15 : decode cL_warmestInterval 15 = .ok (.iconst 0, 1) := by decide +kernel
theorem dL_warmestInterval_16 : decode cL_warmestInterval 16 = .ok (.ireturn, 1) := by decide +kernel
theorem dL_registered_0 : decode cL_registered 0 = .ok (.aload 4, 2) := by decide +kernel
theorem dL_registered_2 : decode cL_registered 2 = .ok (.iconst 0, 1) := by decide +kernel
theorem dL_registered_3 : decode cL_registered 3 = .ok (.aload_n 0, 1) := by decide +kernel
theorem dL_registered_4 : decode cL_registered 4 = .ok (.iload_n 1, 1) := by decide +kernel
theorem dL_registered_5 : decode cL_registered 5 = .ok (.iload_n 2, 1) := by decide +kernel
theorem dL_registered_6 : decode cL_registered 6 = .ok (.iload_n 3, 1) := by decide +kernel
theorem dL_registered_7 : decode cL_registered 7 = .ok (.invokevirtual 117, 3) := by decide +kernel
theorem dL_registered_10 : decode cL_registered 10 = .ok (.i2l, 1) := by decide +kernel
theorem dL_registered_11 : decode cL_registered 11 = .ok (.lastore, 1) := by decide +kernel
theorem dL_registered_12 : decode cL_registered 12 = .ok (.goto 7, 3) := by decide +kernel
theorem dL_registered_15 : decode cL_registered 15 = .ok (.astore 5, 2) := by decide +kernel
theorem dL_registered_17 : decode cL_registered 17 = .ok (.iconst 1, 1) := by decide +kernel
theorem dL_registered_18 : decode cL_registered 18 = .ok (.ireturn, 1) := by decide +kernel
theorem dL_registered_19 : decode cL_registered 19 = .ok (.iconst 0, 1) := by decide +kernel
theorem dL_registered_20 : decode cL_registered 20 = .ok (.ireturn, 1) := by decide +kernel
theorem dL_changedPixels_0 : decode cL_changedPixels 0 = .ok (.aload 4, 2) := by decide +kernel
theorem dL_changedPixels_2 : decode cL_changedPixels 2 = .ok (.iconst 0, 1) := by decide +kernel
theorem dL_changedPixels_3 : decode cL_changedPixels 3 = .ok (.aload_n 0, 1) := by decide +kernel
theorem dL_changedPixels_4 : decode cL_changedPixels 4 = .ok (.iload_n 1, 1) := by decide +kernel
theorem dL_changedPixels_5 : decode cL_changedPixels 5 = .ok (.iload_n 2, 1) := by decide +kernel
theorem dL_changedPixels_6 : decode cL_changedPixels 6 = .ok (.iload_n 3, 1) := by decide +kernel
theorem dL_changedPixels_7 : decode cL_changedPixels 7 = .ok (.invokevirtual 120, 3) := by decide +kernel
theorem dL_changedPixels_10 : decode cL_changedPixels 10 = .ok (.i2l, 1) := by decide +kernel
theorem dL_changedPixels_11 : decode cL_changedPixels 11 = .ok (.lastore, 1) := by decide +kernel
theorem dL_changedPixels_12 : decode cL_changedPixels 12 = .ok (.goto 7, 3) := by decide +kernel
theorem dL_changedPixels_15 : decode cL_changedPixels 15 = .ok (.astore 5, 2) := by decide +kernel
theorem dL_changedPixels_17 : decode cL_changedPixels 17 = .ok (.iconst 1, 1) := by decide +kernel
theorem dL_changedPixels_18 : decode cL_changedPixels 18 = .ok (.ireturn, 1) := by decide +kernel
theorem dL_changedPixels_19 : decode cL_changedPixels 19 = .ok (.iconst 0, 1) := by decide +kernel
theorem dL_changedPixels_20 : decode cL_changedPixels 20 = .ok (.ireturn, 1) := by decide +kernel
theorem dL_snowLine_0 : decode cL_snowLine 0 = .ok (.aload_n 3, 1) := by decide +kernel
theorem dL_snowLine_1 : decode cL_snowLine 1 = .ok (.iconst 0, 1) := by decide +kernel
theorem dL_snowLine_2 : decode cL_snowLine 2 = .ok (.aload_n 0, 1) := by decide +kernel
theorem dL_snowLine_3 : decode cL_snowLine 3 = .ok (.iload_n 1, 1) := by decide +kernel
theorem dL_snowLine_4 : decode cL_snowLine 4 = .ok (.iload_n 2, 1) := by decide +kernel
theorem dL_snowLine_5 : decode cL_snowLine 5 = .ok (.invokevirtual 123, 3) := by decide +kernel
theorem dL_snowLine_8 : decode cL_snowLine 8 = .ok (.i2l, 1) := by decide +kernel
theorem dL_snowLine_9 : decode cL_snowLine 9 = .ok (.lastore, 1) := by decide +kernel
theorem dL_snowLine_10 : decode cL_snowLine 10 = .ok (.goto 7, 3) := by decide +kernel
theorem dL_snowLine_13 : decode cL_snowLine 13 = .ok (.astore 4, 2) := by decide +kernel
theorem dL_snowLine_15 : decode cL_snowLine 15 = .ok (.iconst 1, 1) := by decide +kernel
theorem dL_snowLine_16 : decode cL_snowLine 16 = .ok (.ireturn, 1) := by decide +kernel
theorem dL_snowLine_17 : decode cL_snowLine 17 = .ok (.iconst 0, 1) := by decide +kernel
theorem dL_snowLine_18 : decode cL_snowLine 18 = .ok (.ireturn, 1) := by decide +kernel
theorem dL_strain_0 : decode cL_strain 0 = .ok (.aload_n 3, 1) := by decide +kernel
theorem dL_strain_1 : decode cL_strain 1 = .ok (.iconst 0, 1) := by decide +kernel
theorem dL_strain_2 : decode cL_strain 2 = .ok (.aload_n 0, 1) := by decide +kernel
theorem dL_strain_3 : decode cL_strain 3 = .ok (.iload_n 1, 1) := by decide +kernel
theorem dL_strain_4 : decode cL_strain 4 = .ok (.iload_n 2, 1) := by decide +kernel
theorem dL_strain_5 : decode cL_strain 5 = .ok (.invokevirtual 126, 3) := by decide +kernel
theorem dL_strain_8 : decode cL_strain 8 = .ok (.i2l, 1) := by decide +kernel
theorem dL_strain_9 : decode cL_strain 9 = .ok (.lastore, 1) := by decide +kernel
theorem dL_strain_10 : decode cL_strain 10 = .ok (.goto 7, 3) := by decide +kernel
theorem dL_strain_13 : decode cL_strain 13 = .ok (.astore 4, 2) := by decide +kernel
theorem dL_strain_15 : decode cL_strain 15 = .ok (.iconst 1, 1) := by decide +kernel
theorem dL_strain_16 : decode cL_strain 16 = .ok (.ireturn, 1) := by decide +kernel
theorem dL_strain_17 : decode cL_strain 17 = .ok (.iconst 0, 1) := by decide +kernel
theorem dL_strain_18 : decode cL_strain 18 = .ok (.ireturn, 1) := by decide +kernel
theorem dL_direction_0 : decode cL_direction 0 = .ok (.aload_n 2, 1) := by decide +kernel
theorem dL_direction_1 : decode cL_direction 1 = .ok (.iconst 0, 1) := by decide +kernel
theorem dL_direction_2 : decode cL_direction 2 = .ok (.aload_n 0, 1) := by decide +kernel
theorem dL_direction_3 : decode cL_direction 3 = .ok (.iload_n 1, 1) := by decide +kernel
theorem dL_direction_4 : decode cL_direction 4 = .ok (.invokevirtual 129, 3) := by decide +kernel
theorem dL_direction_7 : decode cL_direction 7 = .ok (.i2l, 1) := by decide +kernel
theorem dL_direction_8 : decode cL_direction 8 = .ok (.lastore, 1) := by decide +kernel
theorem dL_direction_9 : decode cL_direction 9 = .ok (.goto 6, 3) := by decide +kernel
theorem dL_direction_12 : decode cL_direction 12 = .ok (.astore_n 3, 1) := by decide +kernel
theorem dL_direction_13 : decode cL_direction 13 = .ok (.iconst 1, 1) := by decide +kernel
theorem dL_direction_14 : decode cL_direction 14 = .ok (.ireturn, 1) := by decide +kernel
theorem dL_direction_15 : decode cL_direction 15 = .ok (.iconst 0, 1) := by decide +kernel
theorem dL_direction_16 : decode cL_direction 16 = .ok (.ireturn, 1) := by decide +kernel
theorem dL_meltInSegment_0 : decode cL_meltInSegment 0 = .ok (.aload_n 3, 1) := by decide +kernel
theorem dL_meltInSegment_1 : decode cL_meltInSegment 1 = .ok (.iconst 0, 1) := by decide +kernel
theorem dL_meltInSegment_2 : decode cL_meltInSegment 2 = .ok (.aload_n 0, 1) := by decide +kernel
theorem dL_meltInSegment_3 : decode cL_meltInSegment 3 = .ok (.iload_n 1, 1) := by decide +kernel
theorem dL_meltInSegment_4 : decode cL_meltInSegment 4 = .ok (.iload_n 2, 1) := by decide +kernel
theorem dL_meltInSegment_5 : decode cL_meltInSegment 5 = .ok (.invokevirtual 132, 3) := by decide +kernel
theorem dL_meltInSegment_8 : decode cL_meltInSegment 8 = .ok (.i2l, 1) := by decide +kernel
theorem dL_meltInSegment_9 : decode cL_meltInSegment 9 = .ok (.lastore, 1) := by decide +kernel
theorem dL_meltInSegment_10 : decode cL_meltInSegment 10 = .ok (.goto 7, 3) := by decide +kernel
theorem dL_meltInSegment_13 : decode cL_meltInSegment 13 = .ok (.astore 4, 2) := by decide +kernel
theorem dL_meltInSegment_15 : decode cL_meltInSegment 15 = .ok (.iconst 1, 1) := by decide +kernel
theorem dL_meltInSegment_16 : decode cL_meltInSegment 16 = .ok (.ireturn, 1) := by decide +kernel
theorem dL_meltInSegment_17 : decode cL_meltInSegment 17 = .ok (.iconst 0, 1) := by decide +kernel
theorem dL_meltInSegment_18 : decode cL_meltInSegment 18 = .ok (.ireturn, 1) := by decide +kernel
