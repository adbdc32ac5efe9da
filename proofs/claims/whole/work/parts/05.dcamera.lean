theorem dX11_init_0 : decode cX11_init 0 = .ok (.aload_n 0, 1) := by decide +kernel
theorem dX11_init_1 : decode cX11_init 1 = .ok (.invokespecial 1, 3) := by decide +kernel
theorem dX11_init_4 : decode cX11_init 4 = .ok (.aload_n 0, 1) := by decide +kernel
theorem dX11_init_5 : decode cX11_init 5 = .ok (.new 7, 3) := by decide +kernel
theorem dX11_init_8 : decode cX11_init 8 = .ok (.dup, 1) := by decide +kernel
theorem dX11_init_9 : decode cX11_init 9 = .ok (.invokespecial 9, 3) := by decide +kernel
theorem dX11_init_12 : decode cX11_init 12 = .ok (.putfield 10, 3) := by decide +kernel
theorem dX11_init_15 : decode cX11_init 15 = .ok (.aload_n 0, 1) := by decide +kernel
theorem dX11_init_16 : decode cX11_init 16 = .ok (.new 16, 3) := by decide +kernel
theorem dX11_init_19 : decode cX11_init 19 = .ok (.dup, 1) := by decide +kernel
theorem dX11_init_20 : decode cX11_init 20 = .ok (.invokespecial 18, 3) := by decide +kernel
theorem dX11_init_23 : decode cX11_init 23 = .ok (.putfield 19, 3) := by decide +kernel
theorem dX11_init_26 : decode cX11_init 26 = .ok (.aload_n 0, 1) := by decide +kernel
theorem dX11_init_27 : decode cX11_init 27 = .ok (.new 23, 3) := by decide +kernel
theorem dX11_init_30 : decode cX11_init 30 = .ok (.dup, 1) := by decide +kernel
theorem dX11_init_31 : decode cX11_init 31 = .ok (.invokespecial 25, 3) := by decide +kernel
theorem dX11_init_34 : decode cX11_init 34 = .ok (.putfield 26, 3) := by decide +kernel
theorem dX11_init_37 : decode cX11_init 37 = .ok (.aload_n 0, 1) := by decide +kernel
theorem dX11_init_38 : decode cX11_init 38 = .ok (.new 30, 3) := by decide +kernel
theorem dX11_init_41 : decode cX11_init 41 = .ok (.dup, 1) := by decide +kernel
theorem dX11_init_42 : decode cX11_init 42 = .ok (.invokespecial 32, 3) := by decide +kernel
theorem dX11_init_45 : decode cX11_init 45 = .ok (.putfield 33, 3) := by decide +kernel
theorem dX11_init_48 : decode cX11_init 48 = .ok (.aload_n 0, 1) := by decide +kernel
theorem dX11_init_49 : decode cX11_init 49 = .ok (.new 37, 3) := by decide +kernel
theorem dX11_init_52 : decode cX11_init 52 = .ok (.dup, 1) := by decide +kernel
theorem dX11_init_53 : decode cX11_init 53 = .ok (.invokespecial 39, 3) := by decide +kernel
theorem dX11_init_56 : decode cX11_init 56 = .ok (.putfield 40, 3) := by decide +kernel
theorem dX11_init_59 : decode cX11_init 59 = .ok (.aload_n 0, 1) := by decide +kernel
theorem dX11_init_60 : decode cX11_init 60 = .ok (.bipush 6, 2) := by decide +kernel
theorem dX11_init_62 : decode cX11_init 62 = .ok (.anewarray 44, 3) := by decide +kernel
theorem dX11_init_65 : decode cX11_init 65 = .ok (.putfield 46, 3) := by decide +kernel
theorem dX11_init_68 : decode cX11_init 68 = .ok (.aload_n 0, 1) := by decide +kernel
theorem dX11_init_69 : decode cX11_init 69 = .ok (.new 44, 3) := by decide +kernel
theorem dX11_init_72 : decode cX11_init 72 = .ok (.dup, 1) := by decide +kernel
theorem dX11_init_73 : decode cX11_init 73 = .ok (.invokespecial 50, 3) := by decide +kernel
theorem dX11_init_76 : decode cX11_init 76 = .ok (.putfield 51, 3) := by decide +kernel
theorem dX11_init_79 : decode cX11_init 79 = .ok (.aload_n 0, 1) := by decide +kernel
theorem dX11_init_80 : decode cX11_init 80 = .ok (.iconst (-1), 1) := by decide +kernel
theorem dX11_init_81 : decode cX11_init 81 = .ok (.putfield 55, 3) := by decide +kernel
theorem dX11_init_84 : decode cX11_init 84 = .ok (.aload_n 0, 1) := by decide +kernel
theorem dX11_init_85 : decode cX11_init 85 = .ok (.iconst 0, 1) := by decide +kernel
theorem dX11_init_86 : decode cX11_init 86 = .ok (.putfield 59, 3) := by decide +kernel
theorem dX11_init_89 : decode cX11_init 89 = .ok (.iconst 0, 1) := by decide +kernel
theorem dX11_init_90 : decode cX11_init 90 = .ok (.istore_n 1, 1) := by decide +kernel
theorem dX11_init_91 : decode cX11_init 91 = .ok (.iload_n 1, 1) := by decide +kernel
theorem dX11_init_92 : decode cX11_init 92 = .ok (.bipush 6, 2) := by decide +kernel
theorem dX11_init_94 : decode cX11_init 94 = .ok (.if_icmp .ge 22, 3) := by decide +kernel
theorem dX11_init_97 : decode cX11_init 97 = .ok (.aload_n 0, 1) := by decide +kernel
theorem dX11_init_98 : decode cX11_init 98 = .ok (.getfield 46, 3) := by decide +kernel
theorem dX11_init_101 : decode cX11_init 101 = .ok (.iload_n 1, 1) := by decide +kernel
theorem dX11_init_102 : decode cX11_init 102 = .ok (.new 44, 3) := by decide +kernel
theorem dX11_init_105 : decode cX11_init 105 = .ok (.dup, 1) := by decide +kernel
theorem dX11_init_106 : decode cX11_init 106 = .ok (.invokespecial 50, 3) := by decide +kernel
theorem dX11_init_109 : decode cX11_init 109 = .ok (.aastore, 1) := by decide +kernel
theorem dX11_init_110 : decode cX11_init 110 = .ok (.iinc 1 1, 3) := by decide +kernel
theorem dX11_init_113 : decode cX11_init 113 = .ok (.goto (-22), 3) := by decide +kernel
theorem dX11_init_116 : decode cX11_init 116 = .ok (.return_, 1) := by decide +kernel
set_option maxRecDepth 20000 in
theorem ggX11_feed_X2_append : GoodIn wsX11_feed wsX2_append := goodIn_r _ [8, 9, 10, 23, 24, 25, 26, 27, 28, 29] (by decide +kernel) (by decide +kernel)
set_option maxRecDepth 20000 in
theorem gX11_feed_X2_append : GoodIn wsX11_feed (wsV RX11 71 RX2 yX2_append wsX2_append) := goodIn_app (goodIn_of _ (by decide +kernel)) ggX11_feed_X2_append
theorem dX11_feed_0 : decode cX11_feed 0 = .ok (.aload_n 0, 1) := by decide +kernel
theorem dX11_feed_1 : decode cX11_feed 1 = .ok (.getfield 19, 3) := by decide +kernel
theorem dX11_feed_4 : decode cX11_feed 4 = .ok (.getfield 62, 3) := by decide +kernel
theorem dX11_feed_7 : decode cX11_feed 7 = .ok (.astore 6, 2) := by decide +kernel
theorem dX11_feed_9 : decode cX11_feed 9 = .ok (.aload 6, 2) := by decide +kernel
theorem dX11_feed_11 : decode cX11_feed 11 = .ok (.getfield 66, 3) := by decide +kernel
theorem dX11_feed_14 : decode cX11_feed 14 = .ok (.bipush 20, 2) := by decide +kernel
theorem dX11_feed_16 : decode cX11_feed 16 = .ok (.iadd, 1) := by decide +kernel
theorem dX11_feed_17 : decode cX11_feed 17 = .ok (.sipush 1400, 3) := by decide +kernel
theorem dX11_feed_20 : decode cX11_feed 20 = .ok (.if_icmp .le 6, 3) := by decide +kernel
theorem dX11_feed_23 : decode cX11_feed 23 = .ok (.bipush (-3), 2) := by decide +kernel
theorem dX11_feed_25 : decode cX11_feed 25 = .ok (.ireturn, 1) := by decide +kernel
theorem dX11_feed_26 : decode cX11_feed 26 = .ok (.aload 6, 2) := by decide +kernel
theorem dX11_feed_28 : decode cX11_feed 28 = .ok (.iload_n 1, 1) := by decide +kernel
theorem dX11_feed_29 : decode cX11_feed 29 = .ok (.invokevirtual 71, 3) := by decide +kernel
theorem dX11_feed_32 : decode cX11_feed 32 = .ok (.aload 6, 2) := by decide +kernel
theorem dX11_feed_34 : decode cX11_feed 34 = .ok (.iload_n 2, 1) := by decide +kernel
theorem dX11_feed_35 : decode cX11_feed 35 = .ok (.invokevirtual 71, 3) := by decide +kernel
theorem dX11_feed_38 : decode cX11_feed 38 = .ok (.aload 6, 2) := by decide +kernel
theorem dX11_feed_40 : decode cX11_feed 40 = .ok (.iload_n 3, 1) := by decide +kernel
theorem dX11_feed_41 : decode cX11_feed 41 = .ok (.invokevirtual 71, 3) := by decide +kernel
theorem dX11_feed_44 : decode cX11_feed 44 = .ok (.aload 6, 2) := by decide +kernel
theorem dX11_feed_46 : decode cX11_feed 46 = .ok (.iload 4, 2) := by decide +kernel
theorem dX11_feed_48 : decode cX11_feed 48 = .ok (.invokevirtual 71, 3) := by decide +kernel
theorem dX11_feed_51 : decode cX11_feed 51 = .ok (.aload 6, 2) := by decide +kernel
theorem dX11_feed_53 : decode cX11_feed 53 = .ok (.iload 5, 2) := by decide +kernel
theorem dX11_feed_55 : decode cX11_feed 55 = .ok (.invokevirtual 71, 3) := by decide +kernel
theorem dX11_feed_58 : decode cX11_feed 58 = .ok (.aload 6, 2) := by decide +kernel
theorem dX11_feed_60 : decode cX11_feed 60 = .ok (.getfield 66, 3) := by decide +kernel
theorem dX11_feed_63 : decode cX11_feed 63 = .ok (.ireturn, 1) := by decide +kernel
set_option maxRecDepth 20000 in
theorem ggX11_load_X4_readText : GoodIn wsX11_load wsX4_readText := goodIn_r _ [13, 14, 15, 16, 17, 18, 19, 20, 21, 22, 23, 24, 25, 26, 27, 28, 29, 30, 31, 32, 33, 34, 35, 36, 37, 38, 39, 40, 41, 42, 43, 44, 45, 46, 47, 48, 49, 50, 51, 52, 53, 54, 55, 56, 57, 58, 59, 60, 61, 62, 12, 63, 64, 65, 66, 67, 68, 69, 70, 71, 72, 73, 74, 75, 76, 77, 78, 79, 80, 81, 82, 83, 84, 85, 86, 87, 88, 89, 90, 91, 92, 93, 94, 95, 96, 97, 98, 99, 100, 101, 102, 103, 104, 105, 106, 107, 108, 109, 110, 111, 112, 113, 114, 115, 116, 117, 118, 119, 120, 121, 122, 123, 124, 125, 126, 127, 128, 129, 130, 131, 132, 133, 134, 135, 136, 137, 138, 139, 140, 141, 142, 143, 144, 145, 146, 147, 148, 149, 150, 151, 152, 153, 154, 155, 156, 157, 158, 159, 160, 161, 162, 163, 164, 165, 166, 167, 168, 169, 170, 171, 172, 173, 174, 175, 176, 177, 178, 179, 180, 181, 182, 183, 184, 185, 186, 187, 188, 189, 190, 191, 192, 193, 194, 195, 196, 197, 198, 199, 200, 201, 202, 203, 204, 205, 206, 207, 208, 209, 210, 211, 212, 213, 214, 215, 216, 217, 218, 219, 220, 221, 222, 223, 224, 225, 226, 227, 228, 229, 230, 231, 232, 233, 234, 235, 255, 256, 257, 258, 259, 260, 261, 262, 263, 264, 265, 266, 267, 268, 269, 270, 271, 272, 273, 274, 275, 276, 277, 278, 279, 280, 281, 282] (by decide +kernel) (by decide +kernel)
set_option maxRecDepth 20000 in
theorem gX11_load_X4_readText : GoodIn wsX11_load (wsV RX11 75 RX4 yX4_readText wsX4_readText) := goodIn_app (goodIn_of _ (by decide +kernel)) ggX11_load_X4_readText
set_option maxRecDepth 20000 in
theorem ggX11_load_X4_exchange : GoodIn wsX11_load wsX4_exchange := goodIn_r _ [239, 14, 255, 256, 257] (by decide +kernel) (by decide +kernel)
set_option maxRecDepth 20000 in
theorem gX11_load_X4_exchange : GoodIn wsX11_load (wsV RX11 82 RX4 yX4_exchange wsX4_exchange) := goodIn_app (goodIn_of _ (by decide +kernel)) ggX11_load_X4_exchange
set_option maxRecDepth 20000 in
theorem ggX11_load_X3_clear : GoodIn wsX11_load wsX3_clear := goodIn_r _ [244, 245, 283, 284, 285] (by decide +kernel) (by decide +kernel)
set_option maxRecDepth 20000 in
theorem gX11_load_X3_clear : GoodIn wsX11_load (wsV RX11 86 RX3 yX3_clear wsX3_clear) := goodIn_app (goodIn_of _ (by decide +kernel)) ggX11_load_X3_clear
theorem dX11_load_0 : decode cX11_load 0 = .ok (.aload_n 0, 1) := by decide +kernel
theorem dX11_load_1 : decode cX11_load 1 = .ok (.getfield 19, 3) := by decide +kernel
theorem dX11_load_4 : decode cX11_load 4 = .ok (.getfield 62, 3) := by decide +kernel
theorem dX11_load_7 : decode cX11_load 7 = .ok (.astore_n 2, 1) := by decide +kernel
theorem dX11_load_8 : decode cX11_load 8 = .ok (.iload_n 1, 1) := by decide +kernel
theorem dX11_load_9 : decode cX11_load 9 = .ok (.ifCond .lt 11, 3) := by decide +kernel
theorem dX11_load_12 : decode cX11_load 12 = .ok (.iload_n 1, 1) := by decide +kernel
theorem dX11_load_13 : decode cX11_load 13 = .ok (.aload_n 2, 1) := by decide +kernel
theorem dX11_load_14 : decode cX11_load 14 = .ok (.getfield 66, 3) := by decide +kernel
theorem dX11_load_17 : decode cX11_load 17 = .ok (.if_icmp .le 6, 3) := by decide +kernel
theorem dX11_load_20 : decode cX11_load 20 = .ok (.bipush (-2), 2) := by decide +kernel
theorem dX11_load_22 : decode cX11_load 22 = .ok (.ireturn, 1) := by decide +kernel
theorem dX11_load_23 : decode cX11_load 23 = .ok (.aload_n 0, 1) := by decide +kernel
theorem dX11_load_24 : decode cX11_load 24 = .ok (.getfield 19, 3) := by decide +kernel
theorem dX11_load_27 : decode cX11_load 27 = .ok (.iload_n 1, 1) := by decide +kernel
theorem dX11_load_28 : decode cX11_load 28 = .ok (.invokevirtual 75, 3) := by decide +kernel
theorem dX11_load_31 : decode cX11_load 31 = .ok (.istore_n 3, 1) := by decide +kernel
theorem dX11_load_32 : decode cX11_load 32 = .ok (.aload_n 2, 1) := by decide +kernel
theorem dX11_load_33 : decode cX11_load 33 = .ok (.iconst 0, 1) := by decide +kernel
theorem dX11_load_34 : decode cX11_load 34 = .ok (.putfield 66, 3) := by decide +kernel
theorem dX11_load_37 : decode cX11_load 37 = .ok (.iload_n 3, 1) := by decide +kernel
theorem dX11_load_38 : decode cX11_load 38 = .ok (.ifCond .ge 13, 3) := by decide +kernel
theorem dX11_load_41 : decode cX11_load 41 = .ok (.aload_n 0, 1) := by decide +kernel
theorem dX11_load_42 : decode cX11_load 42 = .ok (.aload_n 2, 1) := by decide +kernel
theorem dX11_load_43 : decode cX11_load 43 = .ok (.getfield 79, 3) := by decide +kernel
theorem dX11_load_46 : decode cX11_load 46 = .ok (.putfield 55, 3) := by decide +kernel
theorem dX11_load_49 : decode cX11_load 49 = .ok (.iload_n 3, 1) := by decide +kernel
theorem dX11_load_50 : decode cX11_load 50 = .ok (.ireturn, 1) := by decide +kernel
theorem dX11_load_51 : decode cX11_load 51 = .ok (.aload_n 0, 1) := by decide +kernel
theorem dX11_load_52 : decode cX11_load 52 = .ok (.iconst (-1), 1) := by decide +kernel
theorem dX11_load_53 : decode cX11_load 53 = .ok (.putfield 55, 3) := by decide +kernel
theorem dX11_load_56 : decode cX11_load 56 = .ok (.aload_n 0, 1) := by decide +kernel
theorem dX11_load_57 : decode cX11_load 57 = .ok (.aload_n 0, 1) := by decide +kernel
theorem dX11_load_58 : decode cX11_load 58 = .ok (.getfield 19, 3) := by decide +kernel
theorem dX11_load_61 : decode cX11_load 61 = .ok (.aload_n 0, 1) := by decide +kernel
theorem dX11_load_62 : decode cX11_load 62 = .ok (.getfield 10, 3) := by decide +kernel
theorem dX11_load_65 : decode cX11_load 65 = .ok (.invokevirtual 82, 3) := by decide +kernel
theorem dX11_load_68 : decode cX11_load 68 = .ok (.putfield 10, 3) := by decide +kernel
theorem dX11_load_71 : decode cX11_load 71 = .ok (.aload_n 0, 1) := by decide +kernel
theorem dX11_load_72 : decode cX11_load 72 = .ok (.getfield 26, 3) := by decide +kernel
theorem dX11_load_75 : decode cX11_load 75 = .ok (.invokevirtual 86, 3) := by decide +kernel
theorem dX11_load_78 : decode cX11_load 78 = .ok (.aload_n 0, 1) := by decide +kernel
theorem dX11_load_79 : decode cX11_load 79 = .ok (.dup, 1) := by decide +kernel
theorem dX11_load_80 : decode cX11_load 80 = .ok (.getfield 59, 3) := by decide +kernel
theorem dX11_load_83 : decode cX11_load 83 = .ok (.iconst 1, 1) := by decide +kernel
theorem dX11_load_84 : decode cX11_load 84 = .ok (.iadd, 1) := by decide +kernel
theorem dX11_load_85 : decode cX11_load 85 = .ok (.putfield 59, 3) := by decide +kernel
theorem dX11_load_88 : decode cX11_load 88 = .ok (.iload_n 3, 1) := by decide +kernel
theorem dX11_load_89 : decode cX11_load 89 = .ok (.ireturn, 1) := by decide +kernel
theorem dX11_errorPosition_0 : decode cX11_errorPosition 0 = .ok (.aload_n 0, 1) := by decide +kernel
theorem dX11_errorPosition_1 : decode cX11_errorPosition 1 = .ok (.getfield 55, 3) := by decide +kernel
theorem dX11_errorPosition_4 : decode cX11_errorPosition 4 = .ok (.ireturn, 1) := by decide +kernel
theorem dX11_width_0 : decode cX11_width 0 = .ok (.aload_n 0, 1) := by decide +kernel
theorem dX11_width_1 : decode cX11_width 1 = .ok (.getfield 10, 3) := by decide +kernel
theorem dX11_width_4 : decode cX11_width 4 = .ok (.getfield 89, 3) := by decide +kernel
theorem dX11_width_7 : decode cX11_width 7 = .ok (.ireturn, 1) := by decide +kernel
theorem dX11_height_0 : decode cX11_height 0 = .ok (.aload_n 0, 1) := by decide +kernel
theorem dX11_height_1 : decode cX11_height 1 = .ok (.getfield 10, 3) := by decide +kernel
theorem dX11_height_4 : decode cX11_height 4 = .ok (.getfield 92, 3) := by decide +kernel
theorem dX11_height_7 : decode cX11_height 7 = .ok (.ireturn, 1) := by decide +kernel
theorem dX11_frameCount_0 : decode cX11_frameCount 0 = .ok (.aload_n 0, 1) := by decide +kernel
theorem dX11_frameCount_1 : decode cX11_frameCount 1 = .ok (.getfield 10, 3) := by decide +kernel
theorem dX11_frameCount_4 : decode cX11_frameCount 4 = .ok (.getfield 95, 3) := by decide +kernel
theorem dX11_frameCount_7 : decode cX11_frameCount 7 = .ok (.ireturn, 1) := by decide +kernel
theorem dX11_controlCount_0 : decode cX11_controlCount 0 = .ok (.aload_n 0, 1) := by decide +kernel
theorem dX11_controlCount_1 : decode cX11_controlCount 1 = .ok (.getfield 10, 3) := by decide +kernel
theorem dX11_controlCount_4 : decode cX11_controlCount 4 = .ok (.getfield 98, 3) := by decide +kernel
theorem dX11_controlCount_7 : decode cX11_controlCount 7 = .ok (.getfield 102, 3) := by decide +kernel
theorem dX11_controlCount_10 : decode cX11_controlCount 10 = .ok (.ireturn, 1) := by decide +kernel
theorem dX11_featureCount_0 : decode cX11_featureCount 0 = .ok (.aload_n 0, 1) := by decide +kernel
theorem dX11_featureCount_1 : decode cX11_featureCount 1 = .ok (.getfield 10, 3) := by decide +kernel
theorem dX11_featureCount_4 : decode cX11_featureCount 4 = .ok (.getfield 107, 3) := by decide +kernel
theorem dX11_featureCount_7 : decode cX11_featureCount 7 = .ok (.getfield 102, 3) := by decide +kernel
theorem dX11_featureCount_10 : decode cX11_featureCount 10 = .ok (.ireturn, 1) := by decide +kernel
theorem dX11_stakeCount_0 : decode cX11_stakeCount 0 = .ok (.aload_n 0, 1) := by decide +kernel
theorem dX11_stakeCount_1 : decode cX11_stakeCount 1 = .ok (.getfield 10, 3) := by decide +kernel
theorem dX11_stakeCount_4 : decode cX11_stakeCount 4 = .ok (.getfield 110, 3) := by decide +kernel
theorem dX11_stakeCount_7 : decode cX11_stakeCount 7 = .ok (.ireturn, 1) := by decide +kernel
set_option maxRecDepth 20000 in
theorem ggX11_getSetting_X11_isSetting : GoodIn wsX11_getSetting wsX11_isSetting := goodIn_r _ [6] (by decide +kernel) (by decide +kernel)
set_option maxRecDepth 20000 in
theorem gX11_getSetting_X11_isSetting : GoodIn wsX11_getSetting (va_wsS RX11 113 yX11_isSetting wsX11_isSetting) := goodIn_app (goodIn_of _ (by decide +kernel)) ggX11_getSetting_X11_isSetting
theorem dX11_getSetting_0 : decode cX11_getSetting 0 = .ok (.iload_n 1, 1) := by decide +kernel
theorem dX11_getSetting_1 : decode cX11_getSetting 1 = .ok (.invokestatic 113, 3) := by decide +kernel
theorem dX11_getSetting_4 : decode cX11_getSetting 4 = .ok (.ifCond .eq 15, 3) := by decide +kernel
theorem dX11_getSetting_7 : decode cX11_getSetting 7 = .ok (.aload_n 0, 1) := by decide +kernel
theorem dX11_getSetting_8 : decode cX11_getSetting 8 = .ok (.getfield 10, 3) := by decide +kernel
theorem dX11_getSetting_11 : decode cX11_getSetting 11 = .ok (.getfield 117, 3) := by decide +kernel
theorem dX11_getSetting_14 : decode cX11_getSetting 14 = .ok (.iload_n 1, 1) := by decide +kernel
theorem dX11_getSetting_15 : decode cX11_getSetting 15 = .ok (.iaload, 1) := by decide +kernel
theorem dX11_getSetting_16 : decode cX11_getSetting 16 = .ok (.goto 5, 3) := by decide +kernel
theorem dX11_getSetting_19 : decode cX11_getSetting 19 = .ok (.bipush (-2), 2) := by decide +kernel
theorem dX11_getSetting_21 : decode cX11_getSetting 21 = .ok (.ireturn, 1) := by decide +kernel
set_option maxRecDepth 20000 in
theorem ggX11_setSetting_X11_isSetting : GoodIn wsX11_setSetting wsX11_isSetting := goodIn_r _ [8] (by decide +kernel) (by decide +kernel)
set_option maxRecDepth 20000 in
theorem gX11_setSetting_X11_isSetting : GoodIn wsX11_setSetting (va_wsS RX11 113 yX11_isSetting wsX11_isSetting) := goodIn_app (goodIn_of _ (by decide +kernel)) ggX11_setSetting_X11_isSetting
set_option maxRecDepth 20000 in
theorem ggX11_setSetting_X11_isBetween : GoodIn wsX11_setSetting wsX11_isBetween := goodIn_r _ [11] (by decide +kernel) (by decide +kernel)
set_option maxRecDepth 20000 in
theorem gX11_setSetting_X11_isBetween : GoodIn wsX11_setSetting (va_wsS RX11 127 yX11_isBetween wsX11_isBetween) := goodIn_app (goodIn_of _ (by decide +kernel)) ggX11_setSetting_X11_isBetween
set_option maxRecDepth 20000 in
theorem ggX11_setSetting_X11_record : GoodIn wsX11_setSetting wsX11_record := goodIn_r _ [15, 16, 17, 18, 19, 20, 21, 22, 23, 24, 25, 26, 27, 28, 29, 30, 31, 32, 33, 34, 35, 36, 37, 38, 39, 40, 41, 42, 43, 44, 45, 46, 47, 57, 58, 59, 60, 61, 62, 63, 64] (by decide +kernel) (by decide +kernel)
set_option maxRecDepth 20000 in
theorem gX11_setSetting_X11_record : GoodIn wsX11_setSetting (wsV RX11 133 RX11 yX11_record wsX11_record) := goodIn_app (goodIn_of _ (by decide +kernel)) ggX11_setSetting_X11_record
theorem dX11_setSetting_0 : decode cX11_setSetting 0 = .ok (.iload_n 1, 1) := by decide +kernel
theorem dX11_setSetting_1 : decode cX11_setSetting 1 = .ok (.invokestatic 113, 3) := by decide +kernel
theorem dX11_setSetting_4 : decode cX11_setSetting 4 = .ok (.ifCond .eq 20, 3) := by decide +kernel
theorem dX11_setSetting_7 : decode cX11_setSetting 7 = .ok (.iload_n 2, 1) := by decide +kernel
theorem dX11_setSetting_8 : decode cX11_setSetting 8 = .ok (.getstatic 121, 3) := by decide +kernel
theorem dX11_setSetting_11 : decode cX11_setSetting 11 = .ok (.iload_n 1, 1) := by decide +kernel
theorem dX11_setSetting_12 : decode cX11_setSetting 12 = .ok (.iaload, 1) := by decide +kernel
theorem dX11_setSetting_13 : decode cX11_setSetting 13 = .ok (.getstatic 124, 3) := by decide +kernel
theorem dX11_setSetting_16 : decode cX11_setSetting 16 = .ok (.iload_n 1, 1) := by decide +kernel
theorem dX11_setSetting_17 : decode cX11_setSetting 17 = .ok (.iaload, 1) := by decide +kernel
theorem dX11_setSetting_18 : decode cX11_setSetting 18 = .ok (.invokestatic 127, 3) := by decide +kernel
theorem dX11_setSetting_21 : decode cX11_setSetting 21 = .ok (.ifCond .ne 6, 3) := by decide +kernel
theorem dX11_setSetting_24 : decode cX11_setSetting 24 = .ok (.bipush (-2), 2) := by decide +kernel
theorem dX11_setSetting_26 : decode cX11_setSetting 26 = .ok (.ireturn, 1) := by decide +kernel
theorem dX11_setSetting_27 : decode cX11_setSetting 27 = .ok (.aload_n 0, 1) := by decide +kernel
theorem dX11_setSetting_28 : decode cX11_setSetting 28 = .ok (.getfield 10, 3) := by decide +kernel
theorem dX11_setSetting_31 : decode cX11_setSetting 31 = .ok (.getfield 117, 3) := by decide +kernel
theorem dX11_setSetting_34 : decode cX11_setSetting 34 = .ok (.iload_n 1, 1) := by decide +kernel
theorem dX11_setSetting_35 : decode cX11_setSetting 35 = .ok (.iaload, 1) := by decide +kernel
theorem dX11_setSetting_36 : decode cX11_setSetting 36 = .ok (.istore_n 3, 1) := by decide +kernel
theorem dX11_setSetting_37 : decode cX11_setSetting 37 = .ok (.aload_n 0, 1) := by decide +kernel
theorem dX11_setSetting_38 : decode cX11_setSetting 38 = .ok (.iconst 0, 1) := by decide +kernel
theorem dX11_setSetting_39 : decode cX11_setSetting 39 = .ok (.iload_n 1, 1) := by decide +kernel
theorem dX11_setSetting_40 : decode cX11_setSetting 40 = .ok (.iconst 0, 1) := by decide +kernel
theorem dX11_setSetting_41 : decode cX11_setSetting 41 = .ok (.iconst 0, 1) := by decide +kernel
theorem dX11_setSetting_42 : decode cX11_setSetting 42 = .ok (.iload_n 3, 1) := by decide +kernel
theorem dX11_setSetting_43 : decode cX11_setSetting 43 = .ok (.invokevirtual 133, 3) := by decide +kernel
theorem dX11_setSetting_46 : decode cX11_setSetting 46 = .ok (.aload_n 0, 1) := by decide +kernel
theorem dX11_setSetting_47 : decode cX11_setSetting 47 = .ok (.getfield 10, 3) := by decide +kernel
theorem dX11_setSetting_50 : decode cX11_setSetting 50 = .ok (.getfield 117, 3) := by decide +kernel
theorem dX11_setSetting_53 : decode cX11_setSetting 53 = .ok (.iload_n 1, 1) := by decide +kernel
theorem dX11_setSetting_54 : decode cX11_setSetting 54 = .ok (.iload_n 2, 1) := by decide +kernel
theorem dX11_setSetting_55 : decode cX11_setSetting 55 = .ok (.iastore, 1) := by decide +kernel
theorem dX11_setSetting_56 : decode cX11_setSetting 56 = .ok (.iload_n 3, 1) := by decide +kernel
theorem dX11_setSetting_57 : decode cX11_setSetting 57 = .ok (.ireturn, 1) := by decide +kernel
set_option maxRecDepth 20000 in
theorem ggX11_frameDay_X11_requireFrame : GoodIn wsX11_frameDay wsX11_requireFrame := goodIn_ca (goodIn_r _ [6, 7, 8, 1, 9, 10, 11, 12, 13, 14, 22, 23, 24, 25, 26, 27, 28, 29, 30, 31, 32, 33, 34, 35, 36, 37, 38, 39] (by decide +kernel) (by decide +kernel)) (goodIn_sub (fun _ h => List.mem_cons_of_mem _ (List.mem_append_right _ h)) (by decide +kernel))
set_option maxRecDepth 20000 in
theorem gX11_frameDay_X11_requireFrame : GoodIn wsX11_frameDay (wsV RX11 137 RX11 yX11_requireFrame wsX11_requireFrame) := goodIn_app (goodIn_of _ (by decide +kernel)) ggX11_frameDay_X11_requireFrame
set_option maxRecDepth 20000 in
theorem ggX11_frameDay_X8_dayOf : GoodIn wsX11_frameDay wsX8_dayOf := goodIn_r _ [18, 19, 20, 21, 10, 11, 12, 13, 14, 31, 32, 33, 34, 35, 36, 37, 38, 39, 40, 41] (by decide +kernel) (by decide +kernel)
set_option maxRecDepth 20000 in
theorem gX11_frameDay_X8_dayOf : GoodIn wsX11_frameDay (wsV RX11 140 RX8 yX8_dayOf wsX8_dayOf) := goodIn_app (goodIn_of _ (by decide +kernel)) ggX11_frameDay_X8_dayOf
theorem dX11_frameDay_0 : decode cX11_frameDay 0 = .ok (.aload_n 0, 1) := by decide +kernel
theorem dX11_frameDay_1 : decode cX11_frameDay 1 = .ok (.iload_n 1, 1) := by decide +kernel
theorem dX11_frameDay_2 : decode cX11_frameDay 2 = .ok (.invokevirtual 137, 3) := by decide +kernel
theorem dX11_frameDay_5 : decode cX11_frameDay 5 = .ok (.aload_n 0, 1) := by decide +kernel
theorem dX11_frameDay_6 : decode cX11_frameDay 6 = .ok (.getfield 10, 3) := by decide +kernel
theorem dX11_frameDay_9 : decode cX11_frameDay 9 = .ok (.iload_n 1, 1) := by decide +kernel
theorem dX11_frameDay_10 : decode cX11_frameDay 10 = .ok (.invokevirtual 140, 3) := by decide +kernel
theorem dX11_frameDay_13 : decode cX11_frameDay 13 = .ok (.ireturn, 1) := by decide +kernel
set_option maxRecDepth 20000 in
theorem ggX11_pixel_X11_requireFrame : GoodIn wsX11_pixel wsX11_requireFrame := goodIn_ca (goodIn_r _ [6, 7, 8, 1, 9, 10, 11, 12, 13, 14, 33, 34, 35, 36, 37, 38, 39, 40, 41, 42, 43, 44, 45, 46, 47, 48, 49, 50] (by decide +kernel) (by decide +kernel)) (goodIn_sub (fun _ h => List.mem_cons_of_mem _ (List.mem_append_right _ h)) (by decide +kernel))
set_option maxRecDepth 20000 in
theorem gX11_pixel_X11_requireFrame : GoodIn wsX11_pixel (wsV RX11 137 RX11 yX11_requireFrame wsX11_requireFrame) := goodIn_app (goodIn_of _ (by decide +kernel)) ggX11_pixel_X11_requireFrame
set_option maxRecDepth 20000 in
theorem ggX11_pixel_X11_requirePixel : GoodIn wsX11_pixel wsX11_requirePixel := goodIn_ca (goodIn_r _ [18, 7, 8, 1, 19, 20, 21, 12, 22, 23, 24, 33, 34, 35, 36, 37, 38, 39, 40, 41, 42, 43, 44, 45, 46, 47, 48, 49, 50] (by decide +kernel) (by decide +kernel)) (goodIn_sub (fun _ h => List.mem_cons_of_mem _ (List.mem_append_right _ h)) (by decide +kernel))
set_option maxRecDepth 20000 in
theorem gX11_pixel_X11_requirePixel : GoodIn wsX11_pixel (wsV RX11 143 RX11 yX11_requirePixel wsX11_requirePixel) := goodIn_app (goodIn_of _ (by decide +kernel)) ggX11_pixel_X11_requirePixel
set_option maxRecDepth 20000 in
theorem ggX11_pixel_X8_brightnessAt : GoodIn wsX11_pixel wsX8_brightnessAt := goodIn_r _ [28, 29, 30, 31, 10, 11, 12, 13, 14, 32, 20, 21, 22, 23, 24, 42, 43, 44, 45, 46, 47, 48, 49, 50, 51, 52] (by decide +kernel) (by decide +kernel)
set_option maxRecDepth 20000 in
theorem gX11_pixel_X8_brightnessAt : GoodIn wsX11_pixel (wsV RX11 147 RX8 yX8_brightnessAt wsX8_brightnessAt) := goodIn_app (goodIn_of _ (by decide +kernel)) ggX11_pixel_X8_brightnessAt
theorem dX11_pixel_0 : decode cX11_pixel 0 = .ok (.aload_n 0, 1) := by decide +kernel
theorem dX11_pixel_1 : decode cX11_pixel 1 = .ok (.iload_n 1, 1) := by decide +kernel
theorem dX11_pixel_2 : decode cX11_pixel 2 = .ok (.invokevirtual 137, 3) := by decide +kernel
theorem dX11_pixel_5 : decode cX11_pixel 5 = .ok (.aload_n 0, 1) := by decide +kernel
theorem dX11_pixel_6 : decode cX11_pixel 6 = .ok (.iload_n 2, 1) := by decide +kernel
theorem dX11_pixel_7 : decode cX11_pixel 7 = .ok (.iload_n 3, 1) := by decide +kernel
theorem dX11_pixel_8 : decode cX11_pixel 8 = .ok (.invokevirtual 143, 3) := by decide +kernel
theorem dX11_pixel_11 : decode cX11_pixel 11 = .ok (.aload_n 0, 1) := by decide +kernel
theorem dX11_pixel_12 : decode cX11_pixel 12 = .ok (.getfield 10, 3) := by decide +kernel
theorem dX11_pixel_15 : decode cX11_pixel 15 = .ok (.iload_n 1, 1) := by decide +kernel
theorem dX11_pixel_16 : decode cX11_pixel 16 = .ok (.iload_n 2, 1) := by decide +kernel
theorem dX11_pixel_17 : decode cX11_pixel 17 = .ok (.iload_n 3, 1) := by decide +kernel
theorem dX11_pixel_18 : decode cX11_pixel 18 = .ok (.invokevirtual 147, 3) := by decide +kernel
theorem dX11_pixel_21 : decode cX11_pixel 21 = .ok (.ireturn, 1) := by decide +kernel
set_option maxRecDepth 20000 in
theorem ggX11_setPixel_X8_hasFrame : GoodIn wsX11_setPixel wsX8_hasFrame := goodIn_r _ [6, 7, 66, 67, 68, 69, 70, 71, 72, 73, 74] (by decide +kernel) (by decide +kernel)
set_option maxRecDepth 20000 in
theorem gX11_setPixel_X8_hasFrame : GoodIn wsX11_setPixel (wsV RX11 151 RX8 yX8_hasFrame wsX8_hasFrame) := goodIn_app (goodIn_of _ (by decide +kernel)) ggX11_setPixel_X8_hasFrame
set_option maxRecDepth 20000 in
theorem ggX11_setPixel_X8_hasPixel : GoodIn wsX11_setPixel wsX8_hasPixel := goodIn_r _ [11, 12, 13, 66, 67, 68, 69, 70, 71, 72, 73, 74] (by decide +kernel) (by decide +kernel)
set_option maxRecDepth 20000 in
theorem gX11_setPixel_X8_hasPixel : GoodIn wsX11_setPixel (wsV RX11 154 RX8 yX8_hasPixel wsX8_hasPixel) := goodIn_app (goodIn_of _ (by decide +kernel)) ggX11_setPixel_X8_hasPixel
set_option maxRecDepth 20000 in
theorem ggX11_setPixel_X11_isBetween : GoodIn wsX11_setPixel wsX11_isBetween := goodIn_r _ [17] (by decide +kernel) (by decide +kernel)
set_option maxRecDepth 20000 in
theorem gX11_setPixel_X11_isBetween : GoodIn wsX11_setPixel (va_wsS RX11 127 yX11_isBetween wsX11_isBetween) := goodIn_app (goodIn_of _ (by decide +kernel)) ggX11_setPixel_X11_isBetween
set_option maxRecDepth 20000 in
theorem ggX11_setPixel_X8_brightnessAt : GoodIn wsX11_setPixel wsX8_brightnessAt := goodIn_r _ [21, 22, 23, 24, 3, 4, 5, 6, 7, 25, 9, 10, 11, 12, 13, 66, 67, 68, 69, 70, 71, 72, 73, 74, 75, 76] (by decide +kernel) (by decide +kernel)
set_option maxRecDepth 20000 in
theorem gX11_setPixel_X8_brightnessAt : GoodIn wsX11_setPixel (wsV RX11 147 RX8 yX8_brightnessAt wsX8_brightnessAt) := goodIn_app (goodIn_of _ (by decide +kernel)) ggX11_setPixel_X8_brightnessAt
set_option maxRecDepth 20000 in
theorem ggX11_setPixel_X11_record : GoodIn wsX11_setPixel wsX11_record := goodIn_r _ [29, 30, 31, 32, 33, 34, 35, 36, 37, 38, 39, 40, 41, 42, 43, 44, 45, 46, 47, 48, 49, 50, 51, 52, 57, 58, 59, 60, 61, 62, 63, 64, 65, 77, 78, 79, 80, 81, 82, 83, 84] (by decide +kernel) (by decide +kernel)
set_option maxRecDepth 20000 in
theorem gX11_setPixel_X11_record : GoodIn wsX11_setPixel (wsV RX11 133 RX11 yX11_record wsX11_record) := goodIn_app (goodIn_of _ (by decide +kernel)) ggX11_setPixel_X11_record
set_option maxRecDepth 20000 in
theorem ggX11_setPixel_X8_paint : GoodIn wsX11_setPixel wsX8_paint := goodIn_r _ [56, 22, 23, 24, 3, 4, 5, 6, 7, 25, 9, 10, 11, 12, 13, 66, 67, 68, 69, 70, 71, 72, 73, 74, 75, 76] (by decide +kernel) (by decide +kernel)
set_option maxRecDepth 20000 in
theorem gX11_setPixel_X8_paint : GoodIn wsX11_setPixel (wsV RX11 158 RX8 yX8_paint wsX8_paint) := goodIn_app (goodIn_of _ (by decide +kernel)) ggX11_setPixel_X8_paint
theorem dX11_setPixel_0 : decode cX11_setPixel 0 = .ok (.aload_n 0, 1) := by decide +kernel
theorem dX11_setPixel_1 : decode cX11_setPixel 1 = .ok (.getfield 10, 3) := by decide +kernel
theorem dX11_setPixel_4 : decode cX11_setPixel 4 = .ok (.iload_n 1, 1) := by decide +kernel
theorem dX11_setPixel_5 : decode cX11_setPixel 5 = .ok (.invokevirtual 151, 3) := by decide +kernel
theorem dX11_setPixel_8 : decode cX11_setPixel 8 = .ok (.ifCond .eq 26, 3) := by decide +kernel
theorem dX11_setPixel_11 : decode cX11_setPixel 11 = .ok (.aload_n 0, 1) := by decide +kernel
theorem dX11_setPixel_12 : decode cX11_setPixel 12 = .ok (.getfield 10, 3) := by decide +kernel
theorem dX11_setPixel_15 : decode cX11_setPixel 15 = .ok (.iload_n 2, 1) := by decide +kernel
theorem dX11_setPixel_16 : decode cX11_setPixel 16 = .ok (.iload_n 3, 1) := by decide +kernel
theorem dX11_setPixel_17 : decode cX11_setPixel 17 = .ok (.invokevirtual 154, 3) := by decide +kernel
theorem dX11_setPixel_20 : decode cX11_setPixel 20 = .ok (.ifCond .eq 14, 3) := by decide +kernel
theorem dX11_setPixel_23 : decode cX11_setPixel 23 = .ok (.iload 4, 2) := by decide +kernel
theorem dX11_setPixel_25 : decode cX11_setPixel 25 = .ok (.iconst 0, 1) := by decide +kernel
theorem dX11_setPixel_26 : decode cX11_setPixel 26 = .ok (.bipush 9, 2) := by decide +kernel
theorem dX11_setPixel_28 : decode cX11_setPixel 28 = .ok (.invokestatic 127, 3) := by decide +kernel
theorem dX11_setPixel_31 : decode cX11_setPixel 31 = .ok (.ifCond .ne 5, 3) := by decide +kernel
theorem dX11_setPixel_34 : decode cX11_setPixel 34 = .ok (.iconst 0, 1) := by decide +kernel
theorem dX11_setPixel_35 : decode cX11_setPixel 35 = .ok (.ireturn, 1) := by decide +kernel
theorem dX11_setPixel_36 : decode cX11_setPixel 36 = .ok (.aload_n 0, 1) := by decide +kernel
theorem dX11_setPixel_37 : decode cX11_setPixel 37 = .ok (.iconst 1, 1) := by decide +kernel
theorem dX11_setPixel_38 : decode cX11_setPixel 38 = .ok (.iload_n 1, 1) := by decide +kernel
theorem dX11_setPixel_39 : decode cX11_setPixel 39 = .ok (.iload_n 2, 1) := by decide +kernel
theorem dX11_setPixel_40 : decode cX11_setPixel 40 = .ok (.iload_n 3, 1) := by decide +kernel
theorem dX11_setPixel_41 : decode cX11_setPixel 41 = .ok (.aload_n 0, 1) := by decide +kernel
theorem dX11_setPixel_42 : decode cX11_setPixel 42 = .ok (.getfield 10, 3) := by decide +kernel
theorem dX11_setPixel_45 : decode cX11_setPixel 45 = .ok (.iload_n 1, 1) := by decide +kernel
theorem dX11_setPixel_46 : decode cX11_setPixel 46 = .ok (.iload_n 2, 1) := by decide +kernel
theorem dX11_setPixel_47 : decode cX11_setPixel 47 = .ok (.iload_n 3, 1) := by decide +kernel
theorem dX11_setPixel_48 : decode cX11_setPixel 48 = .ok (.invokevirtual 147, 3) := by decide +kernel
theorem dX11_setPixel_51 : decode cX11_setPixel 51 = .ok (.invokevirtual 133, 3) := by decide +kernel
theorem dX11_setPixel_54 : decode cX11_setPixel 54 = .ok (.aload_n 0, 1) := by decide +kernel
theorem dX11_setPixel_55 : decode cX11_setPixel 55 = .ok (.getfield 10, 3) := by decide +kernel
theorem dX11_setPixel_58 : decode cX11_setPixel 58 = .ok (.iload_n 1, 1) := by decide +kernel
theorem dX11_setPixel_59 : decode cX11_setPixel 59 = .ok (.iload_n 2, 1) := by decide +kernel
theorem dX11_setPixel_60 : decode cX11_setPixel 60 = .ok (.iload_n 3, 1) := by decide +kernel
theorem dX11_setPixel_61 : decode cX11_setPixel 61 = .ok (.iload 4, 2) := by decide +kernel
theorem dX11_setPixel_63 : decode cX11_setPixel 63 = .ok (.invokevirtual 158, 3) := by decide +kernel
theorem dX11_setPixel_66 : decode cX11_setPixel 66 = .ok (.iconst 1, 1) := by decide +kernel
theorem dX11_setPixel_67 : decode cX11_setPixel 67 = .ok (.ireturn, 1) := by decide +kernel
set_option maxRecDepth 20000 in
theorem ggX11_removeFrame_X8_hasFrame : GoodIn wsX11_removeFrame wsX8_hasFrame := goodIn_r _ [7, 8, 52, 53, 54, 55, 56, 57, 58, 59, 60] (by decide +kernel) (by decide +kernel)
set_option maxRecDepth 20000 in
theorem gX11_removeFrame_X8_hasFrame : GoodIn wsX11_removeFrame (wsV RX11 151 RX8 yX8_hasFrame wsX8_hasFrame) := goodIn_app (goodIn_of _ (by decide +kernel)) ggX11_removeFrame_X8_hasFrame
set_option maxRecDepth 20000 in
theorem ggX11_removeFrame_X11_record : GoodIn wsX11_removeFrame wsX11_record := goodIn_r _ [13, 14, 15, 16, 17, 18, 19, 20, 21, 22, 23, 24, 25, 26, 27, 28, 29, 30, 31, 32, 33, 34, 35, 36, 43, 44, 45, 46, 47, 48, 49, 50, 51, 61, 62, 63, 64, 65, 66, 67, 68] (by decide +kernel) (by decide +kernel)
set_option maxRecDepth 20000 in
theorem gX11_removeFrame_X11_record : GoodIn wsX11_removeFrame (wsV RX11 133 RX11 yX11_record wsX11_record) := goodIn_app (goodIn_of _ (by decide +kernel)) ggX11_removeFrame_X11_record
set_option maxRecDepth 20000 in
theorem ggX11_removeFrame_X8_takeOut : GoodIn wsX11_removeFrame wsX8_takeOut := goodIn_r _ [40, 41, 8, 42, 4, 5, 6, 7, 52, 53, 54, 55, 56, 57, 58, 59, 60] (by decide +kernel) (by decide +kernel)
set_option maxRecDepth 20000 in
theorem gX11_removeFrame_X8_takeOut : GoodIn wsX11_removeFrame (wsV RX11 162 RX8 yX8_takeOut wsX8_takeOut) := goodIn_app (goodIn_of _ (by decide +kernel)) ggX11_removeFrame_X8_takeOut
theorem dX11_removeFrame_0 : decode cX11_removeFrame 0 = .ok (.aload_n 0, 1) := by decide +kernel
theorem dX11_removeFrame_1 : decode cX11_removeFrame 1 = .ok (.getfield 10, 3) := by decide +kernel
theorem dX11_removeFrame_4 : decode cX11_removeFrame 4 = .ok (.iload_n 1, 1) := by decide +kernel
theorem dX11_removeFrame_5 : decode cX11_removeFrame 5 = .ok (.invokevirtual 151, 3) := by decide +kernel
theorem dX11_removeFrame_8 : decode cX11_removeFrame 8 = .ok (.ifCond .ne 5, 3) := by decide +kernel
theorem dX11_removeFrame_11 : decode cX11_removeFrame 11 = .ok (.iconst (-1), 1) := by decide +kernel
theorem dX11_removeFrame_12 : decode cX11_removeFrame 12 = .ok (.ireturn, 1) := by decide +kernel
theorem dX11_removeFrame_13 : decode cX11_removeFrame 13 = .ok (.aload_n 0, 1) := by decide +kernel
theorem dX11_removeFrame_14 : decode cX11_removeFrame 14 = .ok (.iconst 2, 1) := by decide +kernel
theorem dX11_removeFrame_15 : decode cX11_removeFrame 15 = .ok (.iload_n 1, 1) := by decide +kernel
theorem dX11_removeFrame_16 : decode cX11_removeFrame 16 = .ok (.iconst 0, 1) := by decide +kernel
theorem dX11_removeFrame_17 : decode cX11_removeFrame 17 = .ok (.iconst 0, 1) := by decide +kernel
theorem dX11_removeFrame_18 : decode cX11_removeFrame 18 = .ok (.iconst 0, 1) := by decide +kernel
theorem dX11_removeFrame_19 : decode cX11_removeFrame 19 = .ok (.invokevirtual 133, 3) := by decide +kernel
theorem dX11_removeFrame_22 : decode cX11_removeFrame 22 = .ok (.aload_n 0, 1) := by decide +kernel
theorem dX11_removeFrame_23 : decode cX11_removeFrame 23 = .ok (.getfield 10, 3) := by decide +kernel
theorem dX11_removeFrame_26 : decode cX11_removeFrame 26 = .ok (.iload_n 1, 1) := by decide +kernel
theorem dX11_removeFrame_27 : decode cX11_removeFrame 27 = .ok (.invokevirtual 162, 3) := by decide +kernel
theorem dX11_removeFrame_30 : decode cX11_removeFrame 30 = .ok (.aload_n 0, 1) := by decide +kernel
theorem dX11_removeFrame_31 : decode cX11_removeFrame 31 = .ok (.getfield 10, 3) := by decide +kernel
theorem dX11_removeFrame_34 : decode cX11_removeFrame 34 = .ok (.getfield 95, 3) := by decide +kernel
theorem dX11_removeFrame_37 : decode cX11_removeFrame 37 = .ok (.ireturn, 1) := by decide +kernel
set_option maxRecDepth 20000 in
theorem ggX11_contrast_X11_requireFrame : GoodIn wsX11_contrast wsX11_requireFrame := goodIn_ca (goodIn_r _ [6, 7, 8, 1, 9, 10, 11, 12, 13, 14, 31, 32, 33, 34, 35, 36, 37, 38, 39, 40, 41, 42, 43, 44, 45, 46, 47, 48] (by decide +kernel) (by decide +kernel)) (goodIn_sub (fun _ h => List.mem_cons_of_mem _ (List.mem_append_right _ h)) (by decide +kernel))
set_option maxRecDepth 20000 in
theorem gX11_contrast_X11_requireFrame : GoodIn wsX11_contrast (wsV RX11 137 RX11 yX11_requireFrame wsX11_requireFrame) := goodIn_app (goodIn_of _ (by decide +kernel)) ggX11_contrast_X11_requireFrame
set_option maxRecDepth 20000 in
theorem ggX11_contrast_X8_contrastOf : GoodIn wsX11_contrast wsX8_contrastOf := goodIn_r _ [18, 19, 20, 21, 22, 23, 24, 25, 26, 27, 28, 29, 30, 10, 11, 12, 13, 14, 40, 41, 42, 43, 44, 45, 46, 47, 48, 49, 50] (by decide +kernel) (by decide +kernel)
set_option maxRecDepth 20000 in
theorem gX11_contrast_X8_contrastOf : GoodIn wsX11_contrast (wsV RX11 165 RX8 yX8_contrastOf wsX8_contrastOf) := goodIn_app (goodIn_of _ (by decide +kernel)) ggX11_contrast_X8_contrastOf
theorem dX11_contrast_0 : decode cX11_contrast 0 = .ok (.aload_n 0, 1) := by decide +kernel
theorem dX11_contrast_1 : decode cX11_contrast 1 = .ok (.iload_n 1, 1) := by decide +kernel
theorem dX11_contrast_2 : decode cX11_contrast 2 = .ok (.invokevirtual 137, 3) := by decide +kernel
theorem dX11_contrast_5 : decode cX11_contrast 5 = .ok (.aload_n 0, 1) := by decide +kernel
theorem dX11_contrast_6 : decode cX11_contrast 6 = .ok (.getfield 10, 3) := by decide +kernel
theorem dX11_contrast_9 : decode cX11_contrast 9 = .ok (.iload_n 1, 1) := by decide +kernel
theorem dX11_contrast_10 : decode cX11_contrast 10 = .ok (.invokevirtual 165, 3) := by decide +kernel
theorem dX11_contrast_13 : decode cX11_contrast 13 = .ok (.ireturn, 1) := by decide +kernel
set_option maxRecDepth 20000 in
theorem ggX11_isUsable_X11_requireFrame : GoodIn wsX11_isUsable wsX11_requireFrame := goodIn_ca (goodIn_r _ [6, 7, 8, 1, 9, 10, 11, 12, 13, 14, 36, 37, 38, 39, 40, 41, 42, 43, 44, 45, 46, 47, 48, 49, 50, 51, 52, 53] (by decide +kernel) (by decide +kernel)) (goodIn_sub (fun _ h => List.mem_cons_of_mem _ (List.mem_append_right _ h)) (by decide +kernel))
set_option maxRecDepth 20000 in
theorem gX11_isUsable_X11_requireFrame : GoodIn wsX11_isUsable (wsV RX11 137 RX11 yX11_requireFrame wsX11_requireFrame) := goodIn_app (goodIn_of _ (by decide +kernel)) ggX11_isUsable_X11_requireFrame
set_option maxRecDepth 20000 in
theorem ggX11_isUsable_X8_usable : GoodIn wsX11_isUsable wsX8_usable := goodIn_r _ [18, 19, 20, 10, 11, 12, 13, 14, 21, 22, 23, 24, 25, 26, 27, 28, 29, 30, 31, 32, 33, 34, 35, 45, 46, 47, 48, 49, 50, 51, 52, 53, 54, 55] (by decide +kernel) (by decide +kernel)
set_option maxRecDepth 20000 in
theorem gX11_isUsable_X8_usable : GoodIn wsX11_isUsable (wsV RX11 168 RX8 yX8_usable wsX8_usable) := goodIn_app (goodIn_of _ (by decide +kernel)) ggX11_isUsable_X8_usable
theorem dX11_isUsable_0 : decode cX11_isUsable 0 = .ok (.aload_n 0, 1) := by decide +kernel
theorem dX11_isUsable_1 : decode cX11_isUsable 1 = .ok (.iload_n 1, 1) := by decide +kernel
theorem dX11_isUsable_2 : decode cX11_isUsable 2 = .ok (.invokevirtual 137, 3) := by decide +kernel
theorem dX11_isUsable_5 : decode cX11_isUsable 5 = .ok (.aload_n 0, 1) := by decide +kernel
theorem dX11_isUsable_6 : decode cX11_isUsable 6 = .ok (.getfield 10, 3) := by decide +kernel
theorem dX11_isUsable_9 : decode cX11_isUsable 9 = .ok (.iload_n 1, 1) := by decide +kernel
theorem dX11_isUsable_10 : decode cX11_isUsable 10 = .ok (.invokevirtual 168, 3) := by decide +kernel
theorem dX11_isUsable_13 : decode cX11_isUsable 13 = .ok (.ireturn, 1) := by decide +kernel
set_option maxRecDepth 20000 in
theorem ggX11_referenceFrame_X8_usableFrom : GoodIn wsX11_referenceFrame wsX8_usableFrom := goodIn_r _ [6, 7, 8, 9, 10, 11, 12, 13, 14, 5, 15, 16, 17, 18, 19, 20, 21, 22, 23, 24, 25, 26, 27, 28, 29, 30, 31, 41, 42, 43, 44, 45, 46, 47, 48, 49, 50, 51] (by decide +kernel) (by decide +kernel)
set_option maxRecDepth 20000 in
theorem gX11_referenceFrame_X8_usableFrom : GoodIn wsX11_referenceFrame (wsV RX11 171 RX8 yX8_usableFrom wsX8_usableFrom) := goodIn_app (goodIn_of _ (by decide +kernel)) ggX11_referenceFrame_X8_usableFrom
theorem dX11_referenceFrame_0 : decode cX11_referenceFrame 0 = .ok (.aload_n 0, 1) := by decide +kernel
theorem dX11_referenceFrame_1 : decode cX11_referenceFrame 1 = .ok (.getfield 10, 3) := by decide +kernel
theorem dX11_referenceFrame_4 : decode cX11_referenceFrame 4 = .ok (.iconst 0, 1) := by decide +kernel
theorem dX11_referenceFrame_5 : decode cX11_referenceFrame 5 = .ok (.invokevirtual 171, 3) := by decide +kernel
theorem dX11_referenceFrame_8 : decode cX11_referenceFrame 8 = .ok (.ireturn, 1) := by decide +kernel
set_option maxRecDepth 20000 in
theorem ggX11_isOriented_X11_requireFrame : GoodIn wsX11_isOriented wsX11_requireFrame := goodIn_ca (goodIn_r _ [5, 6, 7, 8, 9, 10, 11, 12, 13, 14, 97, 98, 99, 100, 101, 102, 103, 104, 105, 106, 107, 108, 109, 110, 111, 112, 113, 114] (by decide +kernel) (by decide +kernel)) (goodIn_sub (fun _ h => List.mem_cons_of_mem _ (List.mem_append_right _ h)) (by decide +kernel))
set_option maxRecDepth 20000 in
theorem gX11_isOriented_X11_requireFrame : GoodIn wsX11_isOriented (wsV RX11 137 RX11 yX11_requireFrame wsX11_requireFrame) := goodIn_app (goodIn_of _ (by decide +kernel)) ggX11_isOriented_X11_requireFrame
set_option maxRecDepth 20000 in
theorem ggX11_isOriented_X11_currentOrientation : GoodIn wsX11_isOriented wsX11_currentOrientation := goodIn_r _ [18, 19, 20, 21, 8, 22, 23, 24, 25, 12, 26, 27, 28, 29, 30, 14, 31, 32, 33, 34, 35, 36, 10, 11, 13, 37, 38, 39, 40, 41, 42, 43, 44, 45, 46, 47, 48, 49, 50, 51, 52, 53, 54, 55, 56, 57, 58, 59, 60, 61, 62, 63, 64, 65, 66, 67, 68, 69, 70, 71, 72, 73, 74, 75, 76, 77, 78, 79, 80, 81, 82, 83, 84, 85, 86, 87, 88, 89, 90, 91, 92, 93, 94, 95, 97, 98, 99, 100, 101, 102, 103, 104, 105, 115, 116, 117, 118, 119, 120, 106, 107, 108, 109, 110, 111, 112, 113, 114, 121, 122, 123, 124, 125, 126] (by decide +kernel) (by decide +kernel)
set_option maxRecDepth 20000 in
theorem gX11_isOriented_X11_currentOrientation : GoodIn wsX11_isOriented (wsV RX11 174 RX11 yX11_currentOrientation wsX11_currentOrientation) := goodIn_app (goodIn_of _ (by decide +kernel)) ggX11_isOriented_X11_currentOrientation
set_option maxRecDepth 20000 in
theorem ggX11_isOriented_X6_covers : GoodIn wsX11_isOriented wsX6_covers := goodIn_r _ [95, 54, 115, 116, 117, 118, 119, 120] (by decide +kernel) (by decide +kernel)
set_option maxRecDepth 20000 in
theorem gX11_isOriented_X6_covers : GoodIn wsX11_isOriented (wsV RX11 178 RX6 yX6_covers wsX6_covers) := goodIn_app (goodIn_of _ (by decide +kernel)) ggX11_isOriented_X6_covers
theorem dX11_isOriented_0 : decode cX11_isOriented 0 = .ok (.aload_n 0, 1) := by decide +kernel
theorem dX11_isOriented_1 : decode cX11_isOriented 1 = .ok (.iload_n 1, 1) := by decide +kernel
theorem dX11_isOriented_2 : decode cX11_isOriented 2 = .ok (.invokevirtual 137, 3) := by decide +kernel
theorem dX11_isOriented_5 : decode cX11_isOriented 5 = .ok (.aload_n 0, 1) := by decide +kernel
theorem dX11_isOriented_6 : decode cX11_isOriented 6 = .ok (.invokevirtual 174, 3) := by decide +kernel
theorem dX11_isOriented_9 : decode cX11_isOriented 9 = .ok (.iload_n 1, 1) := by decide +kernel
theorem dX11_isOriented_10 : decode cX11_isOriented 10 = .ok (.invokevirtual 178, 3) := by decide +kernel
theorem dX11_isOriented_13 : decode cX11_isOriented 13 = .ok (.ireturn, 1) := by decide +kernel
set_option maxRecDepth 20000 in
theorem ggX11_shiftX_X11_requireOriented : GoodIn wsX11_shiftX wsX11_requireOriented := goodIn_ca (goodIn_ca (goodIn_r _ [6, 7, 8, 9, 10, 11, 5, 12, 13, 14, 15, 16, 17, 18, 19, 20, 21, 22, 23, 24, 25, 1, 26, 27, 28, 29, 30, 31, 32, 33, 34, 35, 36, 37, 38, 39, 40, 41, 42, 43, 44, 45, 46, 47, 48, 49, 50, 51, 52, 53, 54, 55, 56, 57, 58, 59, 60, 61, 62, 63, 64, 65, 66, 67, 68, 69, 70, 71, 72, 73, 74, 75, 76, 77, 78, 79, 80, 81, 82, 83, 84, 85, 86, 87, 88, 89, 90, 91, 92, 93, 94, 95, 96, 97, 98, 99, 100, 101, 102, 107, 108, 109, 110, 111, 112, 113, 114, 115, 116, 117, 118, 119, 120, 121, 122, 123, 124, 125, 126, 127, 128, 129, 130, 131, 132, 133, 134, 135, 136] (by decide +kernel) (by decide +kernel)) (goodIn_sub (fun _ h => List.mem_cons_of_mem _ (List.mem_append_left _ (List.mem_append_right _ h))) (by decide +kernel))) (goodIn_sub (fun _ h => List.mem_cons_of_mem _ (List.mem_append_right _ h)) (by decide +kernel))
set_option maxRecDepth 20000 in
theorem gX11_shiftX_X11_requireOriented : GoodIn wsX11_shiftX (wsV RX11 181 RX11 yX11_requireOriented wsX11_requireOriented) := goodIn_app (goodIn_of _ (by decide +kernel)) ggX11_shiftX_X11_requireOriented
set_option maxRecDepth 20000 in
theorem ggX11_shiftX_X6_xShiftOf : GoodIn wsX11_shiftX wsX6_xShiftOf := goodIn_r _ [106, 65, 98, 99, 100, 57, 101, 60, 125, 126, 127, 128, 129, 130] (by decide +kernel) (by decide +kernel)
set_option maxRecDepth 20000 in
theorem gX11_shiftX_X6_xShiftOf : GoodIn wsX11_shiftX (wsV RX11 184 RX6 yX6_xShiftOf wsX6_xShiftOf) := goodIn_app (goodIn_of _ (by decide +kernel)) ggX11_shiftX_X6_xShiftOf
theorem dX11_shiftX_0 : decode cX11_shiftX 0 = .ok (.aload_n 0, 1) := by decide +kernel
theorem dX11_shiftX_1 : decode cX11_shiftX 1 = .ok (.iload_n 1, 1) := by decide +kernel
theorem dX11_shiftX_2 : decode cX11_shiftX 2 = .ok (.invokevirtual 181, 3) := by decide +kernel
theorem dX11_shiftX_5 : decode cX11_shiftX 5 = .ok (.aload_n 0, 1) := by decide +kernel
theorem dX11_shiftX_6 : decode cX11_shiftX 6 = .ok (.getfield 33, 3) := by decide +kernel
theorem dX11_shiftX_9 : decode cX11_shiftX 9 = .ok (.iload_n 1, 1) := by decide +kernel
theorem dX11_shiftX_10 : decode cX11_shiftX 10 = .ok (.invokevirtual 184, 3) := by decide +kernel
theorem dX11_shiftX_13 : decode cX11_shiftX 13 = .ok (.ireturn, 1) := by decide +kernel
set_option maxRecDepth 20000 in
theorem ggX11_shiftY_X11_requireOriented : GoodIn wsX11_shiftY wsX11_requireOriented := goodIn_ca (goodIn_ca (goodIn_r _ [6, 7, 8, 9, 10, 11, 5, 12, 13, 14, 15, 16, 17, 18, 19, 20, 21, 22, 23, 24, 25, 1, 26, 27, 28, 29, 30, 31, 32, 33, 34, 35, 36, 37, 38, 39, 40, 41, 42, 43, 44, 45, 46, 47, 48, 49, 50, 51, 52, 53, 54, 55, 56, 57, 58, 59, 60, 61, 62, 63, 64, 65, 66, 67, 68, 69, 70, 71, 72, 73, 74, 75, 76, 77, 78, 79, 80, 81, 82, 83, 84, 85, 86, 87, 88, 89, 90, 91, 92, 93, 94, 95, 96, 97, 98, 99, 100, 101, 102, 107, 108, 109, 110, 111, 112, 113, 114, 115, 116, 117, 118, 119, 120, 121, 122, 123, 124, 125, 126, 127, 128, 129, 130, 131, 132, 133, 134, 135, 136] (by decide +kernel) (by decide +kernel)) (goodIn_sub (fun _ h => List.mem_cons_of_mem _ (List.mem_append_left _ (List.mem_append_right _ h))) (by decide +kernel))) (goodIn_sub (fun _ h => List.mem_cons_of_mem _ (List.mem_append_right _ h)) (by decide +kernel))
set_option maxRecDepth 20000 in
theorem gX11_shiftY_X11_requireOriented : GoodIn wsX11_shiftY (wsV RX11 181 RX11 yX11_requireOriented wsX11_requireOriented) := goodIn_app (goodIn_of _ (by decide +kernel)) ggX11_shiftY_X11_requireOriented
set_option maxRecDepth 20000 in
theorem ggX11_shiftY_X6_yShiftOf : GoodIn wsX11_shiftY wsX6_yShiftOf := goodIn_r _ [106, 66, 98, 99, 100, 57, 101, 60, 125, 126, 127, 128, 129, 130] (by decide +kernel) (by decide +kernel)
set_option maxRecDepth 20000 in
theorem gX11_shiftY_X6_yShiftOf : GoodIn wsX11_shiftY (wsV RX11 187 RX6 yX6_yShiftOf wsX6_yShiftOf) := goodIn_app (goodIn_of _ (by decide +kernel)) ggX11_shiftY_X6_yShiftOf
theorem dX11_shiftY_0 : decode cX11_shiftY 0 = .ok (.aload_n 0, 1) := by decide +kernel
theorem dX11_shiftY_1 : decode cX11_shiftY 1 = .ok (.iload_n 1, 1) := by decide +kernel
theorem dX11_shiftY_2 : decode cX11_shiftY 2 = .ok (.invokevirtual 181, 3) := by decide +kernel
theorem dX11_shiftY_5 : decode cX11_shiftY 5 = .ok (.aload_n 0, 1) := by decide +kernel
theorem dX11_shiftY_6 : decode cX11_shiftY 6 = .ok (.getfield 33, 3) := by decide +kernel
theorem dX11_shiftY_9 : decode cX11_shiftY 9 = .ok (.iload_n 1, 1) := by decide +kernel
theorem dX11_shiftY_10 : decode cX11_shiftY 10 = .ok (.invokevirtual 187, 3) := by decide +kernel
theorem dX11_shiftY_13 : decode cX11_shiftY 13 = .ok (.ireturn, 1) := by decide +kernel
set_option maxRecDepth 20000 in
theorem ggX11_shiftError_X11_requireFrame : GoodIn wsX11_shiftError wsX11_requireFrame := goodIn_ca (goodIn_r _ [5, 6, 7, 8, 9, 10, 11, 12, 13, 14, 100, 101, 102, 103, 104, 105, 106, 107, 108, 109, 110, 111, 112, 113, 114, 115, 116, 117] (by decide +kernel) (by decide +kernel)) (goodIn_sub (fun _ h => List.mem_cons_of_mem _ (List.mem_append_right _ h)) (by decide +kernel))
set_option maxRecDepth 20000 in
theorem gX11_shiftError_X11_requireFrame : GoodIn wsX11_shiftError (wsV RX11 137 RX11 yX11_requireFrame wsX11_requireFrame) := goodIn_app (goodIn_of _ (by decide +kernel)) ggX11_shiftError_X11_requireFrame
set_option maxRecDepth 20000 in
theorem ggX11_shiftError_X11_currentOrientation : GoodIn wsX11_shiftError wsX11_currentOrientation := goodIn_r _ [18, 19, 20, 21, 8, 22, 23, 24, 25, 12, 26, 27, 28, 29, 30, 14, 31, 32, 33, 34, 35, 36, 10, 11, 13, 37, 38, 39, 40, 41, 42, 43, 44, 45, 46, 47, 48, 49, 50, 51, 52, 53, 54, 55, 56, 57, 58, 59, 60, 61, 62, 63, 64, 65, 66, 67, 68, 69, 70, 71, 72, 73, 74, 75, 76, 77, 78, 79, 80, 81, 82, 83, 84, 85, 86, 87, 88, 89, 90, 91, 92, 93, 94, 95, 100, 101, 102, 103, 104, 105, 106, 107, 108, 118, 119, 120, 121, 122, 123, 109, 110, 111, 112, 113, 114, 115, 116, 117, 124, 125, 126, 127, 128, 129] (by decide +kernel) (by decide +kernel)
set_option maxRecDepth 20000 in
theorem gX11_shiftError_X11_currentOrientation : GoodIn wsX11_shiftError (wsV RX11 174 RX11 yX11_currentOrientation wsX11_currentOrientation) := goodIn_app (goodIn_of _ (by decide +kernel)) ggX11_shiftError_X11_currentOrientation
set_option maxRecDepth 20000 in
theorem ggX11_shiftError_X6_errorOf : GoodIn wsX11_shiftError wsX6_errorOf := goodIn_r _ [99, 61, 92, 93, 94, 51, 95, 54, 118, 119, 120, 121, 122, 123] (by decide +kernel) (by decide +kernel)
set_option maxRecDepth 20000 in
theorem gX11_shiftError_X6_errorOf : GoodIn wsX11_shiftError (wsV RX11 190 RX6 yX6_errorOf wsX6_errorOf) := goodIn_app (goodIn_of _ (by decide +kernel)) ggX11_shiftError_X6_errorOf
theorem dX11_shiftError_0 : decode cX11_shiftError 0 = .ok (.aload_n 0, 1) := by decide +kernel
theorem dX11_shiftError_1 : decode cX11_shiftError 1 = .ok (.iload_n 1, 1) := by decide +kernel
theorem dX11_shiftError_2 : decode cX11_shiftError 2 = .ok (.invokevirtual 137, 3) := by decide +kernel
theorem dX11_shiftError_5 : decode cX11_shiftError 5 = .ok (.aload_n 0, 1) := by decide +kernel
theorem dX11_shiftError_6 : decode cX11_shiftError 6 = .ok (.invokevirtual 174, 3) := by decide +kernel
theorem dX11_shiftError_9 : decode cX11_shiftError 9 = .ok (.iload_n 1, 1) := by decide +kernel
theorem dX11_shiftError_10 : decode cX11_shiftError 10 = .ok (.invokevirtual 190, 3) := by decide +kernel
theorem dX11_shiftError_13 : decode cX11_shiftError 13 = .ok (.ireturn, 1) := by decide +kernel
set_option maxRecDepth 20000 in
theorem ggX11_match_X11_matchOf : GoodIn wsX11_match wsX11_matchOf := goodIn_ca (goodIn_r _ [7, 8, 9, 10, 11, 12, 6, 13, 14, 15, 16, 17, 18, 19, 20, 21, 22, 23, 24, 25, 26, 27, 28, 29, 30, 31, 32, 33, 34, 35, 36, 37, 38, 39, 40, 41, 42, 43, 44, 45, 46, 47, 48, 49, 50, 51, 52, 53, 54, 55, 56, 57, 58, 59, 60, 61, 62, 63, 64, 65, 66, 67, 68, 69, 70, 71, 72, 73, 74, 75, 76, 77, 78, 79, 80, 81, 82, 83, 84, 85, 86, 87, 88, 89, 90, 91, 92, 93, 94, 95, 96, 97, 98, 99, 100, 101, 102, 103, 104, 105, 106, 107, 108, 109, 110, 111, 112, 113, 114, 115, 116, 117, 118, 119, 120, 121, 122, 123, 124, 125, 126, 127, 128, 129, 130, 131, 132, 133, 134, 135, 136, 137, 138, 149, 150, 151, 152, 153, 154, 155, 156, 157, 158, 159, 160, 161, 162, 163, 164, 165, 166, 167, 168, 169, 170, 171, 172, 173, 174, 175, 176, 177, 178, 143, 144, 145, 146, 147, 148] (by decide +kernel) (by decide +kernel)) (goodIn_sub (fun _ h => List.mem_cons_of_mem _ (List.mem_append_right _ h)) (by decide +kernel))
set_option maxRecDepth 20000 in
theorem gX11_match_X11_matchOf : GoodIn wsX11_match (wsV RX11 193 RX11 yX11_matchOf wsX11_matchOf) := goodIn_app (goodIn_of _ (by decide +kernel)) ggX11_match_X11_matchOf
set_option maxRecDepth 20000 in
theorem ggX11_match_X5_exists : GoodIn wsX11_match wsX5_exists := goodIn_r _ [142, 116, 143, 144, 145, 146, 147, 148] (by decide +kernel) (by decide +kernel)
set_option maxRecDepth 20000 in
theorem gX11_match_X5_exists : GoodIn wsX11_match (wsV RX11 197 RX5 yX5_exists wsX5_exists) := goodIn_app (goodIn_of _ (by decide +kernel)) ggX11_match_X5_exists
theorem dX11_match_0 : decode cX11_match 0 = .ok (.aload_n 0, 1) := by decide +kernel
theorem dX11_match_1 : decode cX11_match 1 = .ok (.iload_n 1, 1) := by decide +kernel
theorem dX11_match_2 : decode cX11_match 2 = .ok (.iload_n 2, 1) := by decide +kernel
theorem dX11_match_3 : decode cX11_match 3 = .ok (.iload_n 3, 1) := by decide +kernel
theorem dX11_match_4 : decode cX11_match 4 = .ok (.iload 4, 2) := by decide +kernel
theorem dX11_match_6 : decode cX11_match 6 = .ok (.invokevirtual 193, 3) := by decide +kernel
theorem dX11_match_9 : decode cX11_match 9 = .ok (.astore 5, 2) := by decide +kernel
theorem dX11_match_11 : decode cX11_match 11 = .ok (.aload 5, 2) := by decide +kernel
theorem dX11_match_13 : decode cX11_match 13 = .ok (.invokevirtual 197, 3) := by decide +kernel
theorem dX11_match_16 : decode cX11_match 16 = .ok (.ifCond .eq 20, 3) := by decide +kernel
theorem dX11_match_19 : decode cX11_match 19 = .ok (.bipush 16, 2) := by decide +kernel
theorem dX11_match_21 : decode cX11_match 21 = .ok (.aload 5, 2) := by decide +kernel
theorem dX11_match_23 : decode cX11_match 23 = .ok (.getfield 201, 3) := by decide +kernel
theorem dX11_match_26 : decode cX11_match 26 = .ok (.imul, 1) := by decide +kernel
theorem dX11_match_27 : decode cX11_match 27 = .ok (.aload 5, 2) := by decide +kernel
theorem dX11_match_29 : decode cX11_match 29 = .ok (.getfield 204, 3) := by decide +kernel
theorem dX11_match_32 : decode cX11_match 32 = .ok (.iadd, 1) := by decide +kernel
theorem dX11_match_33 : decode cX11_match 33 = .ok (.goto 4, 3) := by decide +kernel
theorem dX11_match_36 : decode cX11_match 36 = .ok (.iconst (-1), 1) := by decide +kernel
theorem dX11_match_37 : decode cX11_match 37 = .ok (.ireturn, 1) := by decide +kernel
set_option maxRecDepth 20000 in
theorem ggX11_matchError_X11_matchOf : GoodIn wsX11_matchError wsX11_matchOf := goodIn_ca (goodIn_r _ [6, 7, 8, 9, 10, 11, 5, 12, 13, 14, 15, 16, 17, 18, 19, 20, 21, 22, 23, 24, 25, 26, 27, 28, 29, 30, 31, 32, 33, 34, 35, 36, 37, 38, 39, 40, 41, 42, 43, 44, 45, 46, 47, 48, 49, 50, 51, 52, 53, 54, 55, 56, 57, 58, 59, 60, 61, 62, 63, 64, 65, 66, 67, 68, 69, 70, 71, 72, 73, 74, 75, 76, 77, 78, 79, 80, 81, 82, 83, 84, 85, 86, 87, 88, 89, 90, 91, 92, 93, 94, 95, 96, 97, 98, 99, 100, 101, 102, 103, 104, 105, 106, 107, 108, 109, 110, 111, 112, 113, 114, 115, 116, 117, 118, 119, 120, 121, 122, 123, 124, 125, 126, 127, 128, 129, 130, 131, 132, 133, 134, 135, 136, 137, 148, 149, 150, 151, 152, 153, 154, 155, 156, 157, 158, 159, 160, 161, 162, 163, 164, 165, 166, 167, 168, 169, 170, 171, 172, 173, 174, 175, 176, 177, 142, 143, 144, 145, 146, 147] (by decide +kernel) (by decide +kernel)) (goodIn_sub (fun _ h => List.mem_cons_of_mem _ (List.mem_append_right _ h)) (by decide +kernel))
set_option maxRecDepth 20000 in
theorem gX11_matchError_X11_matchOf : GoodIn wsX11_matchError (wsV RX11 193 RX11 yX11_matchOf wsX11_matchOf) := goodIn_app (goodIn_of _ (by decide +kernel)) ggX11_matchError_X11_matchOf
set_option maxRecDepth 20000 in
theorem ggX11_matchError_X5_exists : GoodIn wsX11_matchError wsX5_exists := goodIn_r _ [141, 115, 142, 143, 144, 145, 146, 147] (by decide +kernel) (by decide +kernel)
set_option maxRecDepth 20000 in
theorem gX11_matchError_X5_exists : GoodIn wsX11_matchError (wsV RX11 197 RX5 yX5_exists wsX5_exists) := goodIn_app (goodIn_of _ (by decide +kernel)) ggX11_matchError_X5_exists
theorem dX11_matchError_0 : decode cX11_matchError 0 = .ok (.aload_n 0, 1) := by decide +kernel
theorem dX11_matchError_1 : decode cX11_matchError 1 = .ok (.iload_n 1, 1) := by decide +kernel
theorem dX11_matchError_2 : decode cX11_matchError 2 = .ok (.iload_n 2, 1) := by decide +kernel
theorem dX11_matchError_3 : decode cX11_matchError 3 = .ok (.iload_n 3, 1) := by decide +kernel
theorem dX11_matchError_4 : decode cX11_matchError 4 = .ok (.iload 4, 2) := by decide +kernel
theorem dX11_matchError_6 : decode cX11_matchError 6 = .ok (.invokevirtual 193, 3) := by decide +kernel
theorem dX11_matchError_9 : decode cX11_matchError 9 = .ok (.astore 5, 2) := by decide +kernel
theorem dX11_matchError_11 : decode cX11_matchError 11 = .ok (.aload 5, 2) := by decide +kernel
theorem dX11_matchError_13 : decode cX11_matchError 13 = .ok (.invokevirtual 197, 3) := by decide +kernel
theorem dX11_matchError_16 : decode cX11_matchError 16 = .ok (.ifCond .eq 11, 3) := by decide +kernel
theorem dX11_matchError_19 : decode cX11_matchError 19 = .ok (.aload 5, 2) := by decide +kernel
theorem dX11_matchError_21 : decode cX11_matchError 21 = .ok (.getfield 207, 3) := by decide +kernel
theorem dX11_matchError_24 : decode cX11_matchError 24 = .ok (.goto 4, 3) := by decide +kernel
theorem dX11_matchError_27 : decode cX11_matchError 27 = .ok (.iconst (-1), 1) := by decide +kernel
theorem dX11_matchError_28 : decode cX11_matchError 28 = .ok (.ireturn, 1) := by decide +kernel
set_option maxRecDepth 20000 in
theorem ggX11_matchMargin_X11_matchOf : GoodIn wsX11_matchMargin wsX11_matchOf := goodIn_ca (goodIn_r _ [8, 9, 10, 11, 12, 13, 7, 14, 15, 16, 17, 18, 19, 20, 21, 22, 23, 24, 25, 26, 27, 28, 29, 30, 31, 32, 33, 34, 35, 36, 37, 38, 39, 40, 41, 42, 43, 44, 45, 46, 47, 48, 49, 50, 51, 52, 53, 54, 55, 56, 57, 58, 59, 60, 61, 62, 63, 64, 65, 66, 67, 68, 69, 70, 71, 72, 73, 74, 75, 76, 77, 78, 79, 80, 81, 82, 83, 84, 85, 86, 87, 88, 89, 90, 91, 92, 93, 94, 95, 96, 97, 98, 99, 100, 101, 102, 103, 104, 105, 106, 107, 108, 109, 110, 111, 112, 113, 114, 115, 116, 117, 118, 119, 120, 121, 122, 123, 124, 125, 126, 127, 128, 129, 130, 131, 132, 133, 134, 135, 136, 137, 138, 139, 146, 147, 148, 149, 150, 151, 152, 153, 154, 155, 156, 157, 158, 159, 160, 161, 162, 163, 164, 165, 166, 167, 168, 169, 170, 171, 172, 173, 174, 175, 140, 141, 142, 143, 144, 145] (by decide +kernel) (by decide +kernel)) (goodIn_sub (fun _ h => List.mem_cons_of_mem _ (List.mem_append_right _ h)) (by decide +kernel))
set_option maxRecDepth 20000 in
theorem gX11_matchMargin_X11_matchOf : GoodIn wsX11_matchMargin (wsV RX11 193 RX11 yX11_matchOf wsX11_matchOf) := goodIn_app (goodIn_of _ (by decide +kernel)) ggX11_matchMargin_X11_matchOf
theorem dX11_matchMargin_0 : decode cX11_matchMargin 0 = .ok (.aload_n 0, 1) := by decide +kernel
theorem dX11_matchMargin_1 : decode cX11_matchMargin 1 = .ok (.iload_n 1, 1) := by decide +kernel
theorem dX11_matchMargin_2 : decode cX11_matchMargin 2 = .ok (.iload_n 2, 1) := by decide +kernel
theorem dX11_matchMargin_3 : decode cX11_matchMargin 3 = .ok (.iload_n 3, 1) := by decide +kernel
theorem dX11_matchMargin_4 : decode cX11_matchMargin 4 = .ok (.iload 4, 2) := by decide +kernel
theorem dX11_matchMargin_6 : decode cX11_matchMargin 6 = .ok (.invokevirtual 193, 3) := by decide +kernel
theorem dX11_matchMargin_9 : decode cX11_matchMargin 9 = .ok (.astore 5, 2) := by decide +kernel
theorem dX11_matchMargin_11 : decode cX11_matchMargin 11 = .ok (.aload 5, 2) := by decide +kernel
theorem dX11_matchMargin_13 : decode cX11_matchMargin 13 = .ok (.getfield 210, 3) := by decide +kernel
theorem dX11_matchMargin_16 : decode cX11_matchMargin 16 = .ok (.iconst 1, 1) := by decide +kernel
theorem dX11_matchMargin_17 : decode cX11_matchMargin 17 = .ok (.if_icmp .le 17, 3) := by decide +kernel
theorem dX11_matchMargin_20 : decode cX11_matchMargin 20 = .ok (.aload 5, 2) := by decide +kernel
theorem dX11_matchMargin_22 : decode cX11_matchMargin 22 = .ok (.getfield 213, 3) := by decide +kernel
theorem dX11_matchMargin_25 : decode cX11_matchMargin 25 = .ok (.aload 5, 2) := by decide +kernel
theorem dX11_matchMargin_27 : decode cX11_matchMargin 27 = .ok (.getfield 207, 3) := by decide +kernel
theorem dX11_matchMargin_30 : decode cX11_matchMargin 30 = .ok (.isub, 1) := by decide +kernel
theorem dX11_matchMargin_31 : decode cX11_matchMargin 31 = .ok (.goto 4, 3) := by decide +kernel
theorem dX11_matchMargin_34 : decode cX11_matchMargin 34 = .ok (.iconst (-1), 1) := by decide +kernel
theorem dX11_matchMargin_35 : decode cX11_matchMargin 35 = .ok (.ireturn, 1) := by decide +kernel
set_option maxRecDepth 20000 in
theorem ggX11_trackX_X11_requireFeature : GoodIn wsX11_trackX wsX11_requireFeature := goodIn_ca (goodIn_r _ [5, 6, 7, 8, 9, 10, 11, 12, 13, 14, 15, 204, 205, 206, 207, 208, 209, 210, 211, 212, 213, 214, 215, 216, 217, 218, 219, 220, 221, 222, 223, 224, 225] (by decide +kernel) (by decide +kernel)) (goodIn_sub (fun _ h => List.mem_cons_of_mem _ (List.mem_append_right _ h)) (by decide +kernel))
set_option maxRecDepth 20000 in
theorem gX11_trackX_X11_requireFeature : GoodIn wsX11_trackX (wsV RX11 216 RX11 yX11_requireFeature wsX11_requireFeature) := goodIn_app (goodIn_of _ (by decide +kernel)) ggX11_trackX_X11_requireFeature
set_option maxRecDepth 20000 in
theorem ggX11_trackX_X11_requireFrame : GoodIn wsX11_trackX wsX11_requireFrame := goodIn_ca (goodIn_r _ [19, 6, 7, 8, 20, 21, 22, 23, 24, 25, 204, 205, 206, 207, 208, 209, 210, 211, 212, 213, 214, 215, 216, 217, 218, 219, 220, 221] (by decide +kernel) (by decide +kernel)) (goodIn_sub (fun _ h => List.mem_cons_of_mem _ (List.mem_append_right _ h)) (by decide +kernel))
set_option maxRecDepth 20000 in
theorem gX11_trackX_X11_requireFrame : GoodIn wsX11_trackX (wsV RX11 137 RX11 yX11_requireFrame wsX11_requireFrame) := goodIn_app (goodIn_of _ (by decide +kernel)) ggX11_trackX_X11_requireFrame
set_option maxRecDepth 20000 in
theorem ggX11_trackX_X11_trackOf : GoodIn wsX11_trackX wsX11_trackOf := goodIn_r _ [29, 30, 31, 32, 8, 33, 34, 35, 36, 37, 4, 38, 39, 40, 41, 42, 43, 44, 23, 45, 46, 47, 48, 49, 25, 50, 51, 52, 53, 54, 55, 21, 22, 24, 56, 57, 58, 59, 60, 61, 62, 63, 64, 65, 66, 67, 68, 69, 70, 71, 72, 73, 74, 75, 76, 77, 78, 79, 80, 81, 82, 83, 84, 85, 86, 87, 88, 89, 90, 91, 92, 93, 94, 95, 96, 97, 98, 99, 100, 101, 102, 103, 104, 105, 106, 107, 108, 109, 110, 111, 112, 113, 114, 115, 116, 117, 118, 119, 120, 121, 122, 123, 124, 125, 126, 127, 128, 11, 12, 13, 14, 15, 129, 130, 131, 132, 133, 134, 135, 136, 137, 138, 139, 140, 141, 142, 143, 144, 145, 146, 147, 148, 149, 150, 151, 152, 153, 154, 155, 156, 157, 158, 159, 160, 161, 162, 163, 164, 165, 166, 167, 168, 169, 170, 171, 172, 173, 174, 175, 176, 177, 178, 179, 180, 181, 182, 183, 184, 185, 186, 187, 188, 189, 190, 191, 192, 193, 194, 195, 204, 205, 206, 207, 208, 209, 210, 211, 212, 226, 227, 228, 229, 230, 231, 232, 233, 234, 235, 213, 214, 215, 216, 217, 218, 219, 220, 221, 236, 237, 238, 239, 240, 241, 242, 243, 222, 223, 224, 225, 244, 245, 246, 247, 248, 249] (by decide +kernel) (by decide +kernel)
set_option maxRecDepth 20000 in
theorem gX11_trackX_X11_trackOf : GoodIn wsX11_trackX (wsV RX11 219 RX11 yX11_trackOf wsX11_trackOf) := goodIn_app (goodIn_of _ (by decide +kernel)) ggX11_trackX_X11_trackOf
set_option maxRecDepth 20000 in
theorem ggX11_trackX_X10_columnIn : GoodIn wsX11_trackX wsX10_columnIn := goodIn_r _ [199, 135, 200, 201, 202, 118, 203, 120, 133, 226, 227, 228, 229, 230, 231, 232, 233, 234, 235] (by decide +kernel) (by decide +kernel)
set_option maxRecDepth 20000 in
theorem gX11_trackX_X10_columnIn : GoodIn wsX11_trackX (wsV RX11 223 RX10 yX10_columnIn wsX10_columnIn) := goodIn_app (goodIn_of _ (by decide +kernel)) ggX11_trackX_X10_columnIn
theorem dX11_trackX_0 : decode cX11_trackX 0 = .ok (.aload_n 0, 1) := by decide +kernel
theorem dX11_trackX_1 : decode cX11_trackX 1 = .ok (.iload_n 1, 1) := by decide +kernel
theorem dX11_trackX_2 : decode cX11_trackX 2 = .ok (.invokevirtual 216, 3) := by decide +kernel
theorem dX11_trackX_5 : decode cX11_trackX 5 = .ok (.aload_n 0, 1) := by decide +kernel
theorem dX11_trackX_6 : decode cX11_trackX 6 = .ok (.iload_n 2, 1) := by decide +kernel
theorem dX11_trackX_7 : decode cX11_trackX 7 = .ok (.invokevirtual 137, 3) := by decide +kernel
theorem dX11_trackX_10 : decode cX11_trackX 10 = .ok (.aload_n 0, 1) := by decide +kernel
theorem dX11_trackX_11 : decode cX11_trackX 11 = .ok (.iload_n 1, 1) := by decide +kernel
theorem dX11_trackX_12 : decode cX11_trackX 12 = .ok (.invokevirtual 219, 3) := by decide +kernel
theorem dX11_trackX_15 : decode cX11_trackX 15 = .ok (.iload_n 2, 1) := by decide +kernel
theorem dX11_trackX_16 : decode cX11_trackX 16 = .ok (.invokevirtual 223, 3) := by decide +kernel
theorem dX11_trackX_19 : decode cX11_trackX 19 = .ok (.ireturn, 1) := by decide +kernel
set_option maxRecDepth 20000 in
theorem ggX11_trackY_X11_requireFeature : GoodIn wsX11_trackY wsX11_requireFeature := goodIn_ca (goodIn_r _ [5, 6, 7, 8, 9, 10, 11, 12, 13, 14, 15, 204, 205, 206, 207, 208, 209, 210, 211, 212, 213, 214, 215, 216, 217, 218, 219, 220, 221, 222, 223, 224, 225] (by decide +kernel) (by decide +kernel)) (goodIn_sub (fun _ h => List.mem_cons_of_mem _ (List.mem_append_right _ h)) (by decide +kernel))
set_option maxRecDepth 20000 in
theorem gX11_trackY_X11_requireFeature : GoodIn wsX11_trackY (wsV RX11 216 RX11 yX11_requireFeature wsX11_requireFeature) := goodIn_app (goodIn_of _ (by decide +kernel)) ggX11_trackY_X11_requireFeature
set_option maxRecDepth 20000 in
theorem ggX11_trackY_X11_requireFrame : GoodIn wsX11_trackY wsX11_requireFrame := goodIn_ca (goodIn_r _ [19, 6, 7, 8, 20, 21, 22, 23, 24, 25, 204, 205, 206, 207, 208, 209, 210, 211, 212, 213, 214, 215, 216, 217, 218, 219, 220, 221] (by decide +kernel) (by decide +kernel)) (goodIn_sub (fun _ h => List.mem_cons_of_mem _ (List.mem_append_right _ h)) (by decide +kernel))
set_option maxRecDepth 20000 in
theorem gX11_trackY_X11_requireFrame : GoodIn wsX11_trackY (wsV RX11 137 RX11 yX11_requireFrame wsX11_requireFrame) := goodIn_app (goodIn_of _ (by decide +kernel)) ggX11_trackY_X11_requireFrame
set_option maxRecDepth 20000 in
theorem ggX11_trackY_X11_trackOf : GoodIn wsX11_trackY wsX11_trackOf := goodIn_r _ [29, 30, 31, 32, 8, 33, 34, 35, 36, 37, 4, 38, 39, 40, 41, 42, 43, 44, 23, 45, 46, 47, 48, 49, 25, 50, 51, 52, 53, 54, 55, 21, 22, 24, 56, 57, 58, 59, 60, 61, 62, 63, 64, 65, 66, 67, 68, 69, 70, 71, 72, 73, 74, 75, 76, 77, 78, 79, 80, 81, 82, 83, 84, 85, 86, 87, 88, 89, 90, 91, 92, 93, 94, 95, 96, 97, 98, 99, 100, 101, 102, 103, 104, 105, 106, 107, 108, 109, 110, 111, 112, 113, 114, 115, 116, 117, 118, 119, 120, 121, 122, 123, 124, 125, 126, 127, 128, 11, 12, 13, 14, 15, 129, 130, 131, 132, 133, 134, 135, 136, 137, 138, 139, 140, 141, 142, 143, 144, 145, 146, 147, 148, 149, 150, 151, 152, 153, 154, 155, 156, 157, 158, 159, 160, 161, 162, 163, 164, 165, 166, 167, 168, 169, 170, 171, 172, 173, 174, 175, 176, 177, 178, 179, 180, 181, 182, 183, 184, 185, 186, 187, 188, 189, 190, 191, 192, 193, 194, 195, 204, 205, 206, 207, 208, 209, 210, 211, 212, 226, 227, 228, 229, 230, 231, 232, 233, 234, 235, 213, 214, 215, 216, 217, 218, 219, 220, 221, 236, 237, 238, 239, 240, 241, 242, 243, 222, 223, 224, 225, 244, 245, 246, 247, 248, 249] (by decide +kernel) (by decide +kernel)
set_option maxRecDepth 20000 in
theorem gX11_trackY_X11_trackOf : GoodIn wsX11_trackY (wsV RX11 219 RX11 yX11_trackOf wsX11_trackOf) := goodIn_app (goodIn_of _ (by decide +kernel)) ggX11_trackY_X11_trackOf
set_option maxRecDepth 20000 in
theorem ggX11_trackY_X10_rowIn : GoodIn wsX11_trackY wsX10_rowIn := goodIn_r _ [199, 136, 200, 201, 202, 118, 203, 120, 133, 226, 227, 228, 229, 230, 231, 232, 233, 234, 235] (by decide +kernel) (by decide +kernel)
set_option maxRecDepth 20000 in
theorem gX11_trackY_X10_rowIn : GoodIn wsX11_trackY (wsV RX11 226 RX10 yX10_rowIn wsX10_rowIn) := goodIn_app (goodIn_of _ (by decide +kernel)) ggX11_trackY_X10_rowIn
theorem dX11_trackY_0 : decode cX11_trackY 0 = .ok (.aload_n 0, 1) := by decide +kernel
theorem dX11_trackY_1 : decode cX11_trackY 1 = .ok (.iload_n 1, 1) := by decide +kernel
theorem dX11_trackY_2 : decode cX11_trackY 2 = .ok (.invokevirtual 216, 3) := by decide +kernel
theorem dX11_trackY_5 : decode cX11_trackY 5 = .ok (.aload_n 0, 1) := by decide +kernel
theorem dX11_trackY_6 : decode cX11_trackY 6 = .ok (.iload_n 2, 1) := by decide +kernel
theorem dX11_trackY_7 : decode cX11_trackY 7 = .ok (.invokevirtual 137, 3) := by decide +kernel
theorem dX11_trackY_10 : decode cX11_trackY 10 = .ok (.aload_n 0, 1) := by decide +kernel
theorem dX11_trackY_11 : decode cX11_trackY 11 = .ok (.iload_n 1, 1) := by decide +kernel
theorem dX11_trackY_12 : decode cX11_trackY 12 = .ok (.invokevirtual 219, 3) := by decide +kernel
theorem dX11_trackY_15 : decode cX11_trackY 15 = .ok (.iload_n 2, 1) := by decide +kernel
theorem dX11_trackY_16 : decode cX11_trackY 16 = .ok (.invokevirtual 226, 3) := by decide +kernel
theorem dX11_trackY_19 : decode cX11_trackY 19 = .ok (.ireturn, 1) := by decide +kernel
set_option maxRecDepth 20000 in
theorem ggX11_lostCount_X11_requireFeature : GoodIn wsX11_lostCount wsX11_requireFeature := goodIn_ca (goodIn_r _ [6, 7, 8, 9, 10, 11, 12, 13, 14, 15, 16, 202, 203, 204, 205, 206, 207, 208, 209, 210, 211, 212, 213, 214, 215, 216, 217, 218, 219, 220, 221, 222, 223] (by decide +kernel) (by decide +kernel)) (goodIn_sub (fun _ h => List.mem_cons_of_mem _ (List.mem_append_right _ h)) (by decide +kernel))
set_option maxRecDepth 20000 in
theorem gX11_lostCount_X11_requireFeature : GoodIn wsX11_lostCount (wsV RX11 216 RX11 yX11_requireFeature wsX11_requireFeature) := goodIn_app (goodIn_of _ (by decide +kernel)) ggX11_lostCount_X11_requireFeature
set_option maxRecDepth 20000 in
theorem ggX11_lostCount_X11_trackOf : GoodIn wsX11_lostCount wsX11_trackOf := goodIn_r _ [20, 21, 22, 23, 9, 24, 25, 26, 27, 28, 5, 29, 30, 31, 32, 33, 34, 35, 36, 37, 38, 39, 40, 41, 42, 43, 44, 45, 46, 47, 48, 49, 50, 51, 52, 53, 54, 55, 56, 57, 58, 59, 60, 61, 62, 63, 64, 65, 66, 67, 68, 69, 70, 71, 72, 73, 74, 75, 76, 77, 78, 79, 80, 81, 82, 83, 84, 85, 86, 87, 88, 89, 90, 91, 92, 93, 94, 95, 96, 97, 98, 99, 100, 101, 102, 103, 104, 105, 106, 107, 108, 109, 110, 111, 112, 113, 114, 115, 116, 117, 118, 119, 120, 121, 122, 123, 124, 12, 13, 14, 15, 16, 125, 126, 127, 128, 129, 130, 131, 132, 133, 134, 135, 136, 137, 138, 139, 140, 141, 142, 143, 144, 145, 146, 147, 148, 149, 150, 151, 152, 153, 154, 155, 156, 157, 158, 159, 160, 161, 162, 163, 164, 165, 166, 167, 168, 169, 170, 171, 172, 173, 174, 175, 176, 177, 178, 179, 180, 181, 182, 183, 184, 185, 186, 187, 188, 189, 190, 191, 202, 203, 204, 205, 206, 207, 208, 209, 210, 192, 193, 194, 195, 196, 197, 198, 199, 200, 201, 211, 212, 213, 214, 215, 216, 217, 218, 219, 224, 225, 226, 227, 228, 229, 230, 231, 220, 221, 222, 223, 232, 233, 234, 235, 236, 237] (by decide +kernel) (by decide +kernel)
set_option maxRecDepth 20000 in
theorem gX11_lostCount_X11_trackOf : GoodIn wsX11_lostCount (wsV RX11 219 RX11 yX11_trackOf wsX11_trackOf) := goodIn_app (goodIn_of _ (by decide +kernel)) ggX11_lostCount_X11_trackOf
theorem dX11_lostCount_0 : decode cX11_lostCount 0 = .ok (.aload_n 0, 1) := by decide +kernel
theorem dX11_lostCount_1 : decode cX11_lostCount 1 = .ok (.iload_n 1, 1) := by decide +kernel
theorem dX11_lostCount_2 : decode cX11_lostCount 2 = .ok (.invokevirtual 216, 3) := by decide +kernel
theorem dX11_lostCount_5 : decode cX11_lostCount 5 = .ok (.aload_n 0, 1) := by decide +kernel
theorem dX11_lostCount_6 : decode cX11_lostCount 6 = .ok (.iload_n 1, 1) := by decide +kernel
theorem dX11_lostCount_7 : decode cX11_lostCount 7 = .ok (.invokevirtual 219, 3) := by decide +kernel
theorem dX11_lostCount_10 : decode cX11_lostCount 10 = .ok (.getfield 229, 3) := by decide +kernel
theorem dX11_lostCount_13 : decode cX11_lostCount 13 = .ok (.ireturn, 1) := by decide +kernel
set_option maxRecDepth 20000 in
theorem ggX11_loopError_X11_requireFeature : GoodIn wsX11_loopError wsX11_requireFeature := goodIn_ca (goodIn_r _ [5, 6, 7, 8, 9, 10, 11, 12, 13, 14, 15, 150, 151, 152, 153, 154, 155, 156, 157, 158, 159, 160, 161, 162, 163, 164, 165, 166, 167, 168, 169, 170, 171] (by decide +kernel) (by decide +kernel)) (goodIn_sub (fun _ h => List.mem_cons_of_mem _ (List.mem_append_right _ h)) (by decide +kernel))
set_option maxRecDepth 20000 in
theorem gX11_loopError_X11_requireFeature : GoodIn wsX11_loopError (wsV RX11 216 RX11 yX11_requireFeature wsX11_requireFeature) := goodIn_app (goodIn_of _ (by decide +kernel)) ggX11_loopError_X11_requireFeature
set_option maxRecDepth 20000 in
theorem ggX11_loopError_X11_requireFrame : GoodIn wsX11_loopError wsX11_requireFrame := goodIn_ca (goodIn_r _ [19, 6, 7, 8, 20, 21, 22, 23, 24, 25, 150, 151, 152, 153, 154, 155, 156, 157, 158, 159, 160, 161, 162, 163, 164, 165, 166, 167] (by decide +kernel) (by decide +kernel)) (goodIn_sub (fun _ h => List.mem_cons_of_mem _ (List.mem_append_right _ h)) (by decide +kernel))
set_option maxRecDepth 20000 in
theorem gX11_loopError_X11_requireFrame : GoodIn wsX11_loopError (wsV RX11 137 RX11 yX11_requireFrame wsX11_requireFrame) := goodIn_app (goodIn_of _ (by decide +kernel)) ggX11_loopError_X11_requireFrame
set_option maxRecDepth 20000 in
theorem ggX11_loopError_X11_errorOfLoop : GoodIn wsX11_loopError wsX11_errorOfLoop := goodIn_r _ [29, 30, 8, 9, 31, 32, 33, 34, 35, 36, 37, 38, 39, 40, 41, 42, 4, 43, 44, 45, 46, 47, 48, 49, 50, 23, 51, 52, 53, 54, 25, 55, 56, 57, 58, 59, 60, 21, 22, 24, 61, 62, 63, 64, 65, 66, 67, 68, 69, 70, 71, 72, 73, 74, 75, 76, 77, 78, 79, 80, 81, 82, 83, 84, 85, 86, 87, 88, 89, 90, 91, 92, 93, 94, 95, 96, 97, 98, 99, 100, 101, 102, 103, 104, 105, 106, 107, 108, 109, 110, 111, 112, 113, 114, 115, 116, 117, 118, 119, 120, 121, 122, 123, 124, 125, 126, 127, 128, 129, 130, 131, 132, 133, 134, 135, 136, 137, 138, 139, 140, 141, 142, 143, 144, 145, 146, 147, 148, 149, 172, 173, 174, 175, 176, 177, 150, 151, 152, 153, 154, 155, 156, 157, 158, 159, 160, 161, 162, 163, 164, 165, 166, 167, 168, 169, 170, 171, 178, 179, 180, 181, 182, 183, 184, 185] (by decide +kernel) (by decide +kernel)
set_option maxRecDepth 20000 in
theorem gX11_loopError_X11_errorOfLoop : GoodIn wsX11_loopError (wsV RX11 232 RX11 yX11_errorOfLoop wsX11_errorOfLoop) := goodIn_app (goodIn_of _ (by decide +kernel)) ggX11_loopError_X11_errorOfLoop
theorem dX11_loopError_0 : decode cX11_loopError 0 = .ok (.aload_n 0, 1) := by decide +kernel
theorem dX11_loopError_1 : decode cX11_loopError 1 = .ok (.iload_n 1, 1) := by decide +kernel
theorem dX11_loopError_2 : decode cX11_loopError 2 = .ok (.invokevirtual 216, 3) := by decide +kernel
theorem dX11_loopError_5 : decode cX11_loopError 5 = .ok (.aload_n 0, 1) := by decide +kernel
theorem dX11_loopError_6 : decode cX11_loopError 6 = .ok (.iload_n 2, 1) := by decide +kernel
theorem dX11_loopError_7 : decode cX11_loopError 7 = .ok (.invokevirtual 137, 3) := by decide +kernel
theorem dX11_loopError_10 : decode cX11_loopError 10 = .ok (.aload_n 0, 1) := by decide +kernel
theorem dX11_loopError_11 : decode cX11_loopError 11 = .ok (.iload_n 3, 1) := by decide +kernel
theorem dX11_loopError_12 : decode cX11_loopError 12 = .ok (.invokevirtual 137, 3) := by decide +kernel
theorem dX11_loopError_15 : decode cX11_loopError 15 = .ok (.aload_n 0, 1) := by decide +kernel
theorem dX11_loopError_16 : decode cX11_loopError 16 = .ok (.iload_n 1, 1) := by decide +kernel
theorem dX11_loopError_17 : decode cX11_loopError 17 = .ok (.iload_n 2, 1) := by decide +kernel
theorem dX11_loopError_18 : decode cX11_loopError 18 = .ok (.iload_n 3, 1) := by decide +kernel
theorem dX11_loopError_19 : decode cX11_loopError 19 = .ok (.invokevirtual 232, 3) := by decide +kernel
theorem dX11_loopError_22 : decode cX11_loopError 22 = .ok (.ireturn, 1) := by decide +kernel
set_option maxRecDepth 20000 in
theorem ggX11_closedLoops_X11_requireFeature : GoodIn wsX11_closedLoops wsX11_requireFeature := goodIn_ca (goodIn_r _ [8, 9, 10, 2, 11, 12, 13, 14, 15, 16, 17, 151, 152, 153, 154, 155, 156, 157, 158, 159, 160, 161, 162, 163, 164, 165, 166, 167, 168, 169, 170, 171, 172] (by decide +kernel) (by decide +kernel)) (goodIn_sub (fun _ h => List.mem_cons_of_mem _ (List.mem_append_right _ h)) (by decide +kernel))
set_option maxRecDepth 20000 in
theorem gX11_closedLoops_X11_requireFeature : GoodIn wsX11_closedLoops (wsV RX11 216 RX11 yX11_requireFeature wsX11_requireFeature) := goodIn_app (goodIn_of _ (by decide +kernel)) ggX11_closedLoops_X11_requireFeature
set_option maxRecDepth 20000 in
theorem ggX11_closedLoops_X11_currentOrientation : GoodIn wsX11_closedLoops wsX11_currentOrientation := goodIn_r _ [21, 22, 23, 24, 2, 3, 25, 26, 27, 28, 29, 30, 31, 32, 33, 34, 35, 36, 37, 38, 39, 40, 41, 42, 43, 44, 45, 46, 47, 48, 49, 50, 51, 52, 53, 54, 55, 56, 57, 58, 59, 60, 61, 62, 63, 64, 65, 66, 67, 68, 69, 70, 71, 72, 73, 74, 75, 76, 77, 78, 79, 80, 81, 82, 83, 84, 85, 86, 87, 88, 89, 90, 91, 92, 93, 94, 95, 96, 97, 98, 99, 100, 101, 102, 151, 152, 153, 154, 155, 156, 157, 158, 159, 145, 146, 147, 148, 149, 150, 160, 161, 162, 163, 164, 165, 166, 167, 168, 173, 174, 169, 170, 171, 172] (by decide +kernel) (by decide +kernel)
set_option maxRecDepth 20000 in
theorem gX11_closedLoops_X11_currentOrientation : GoodIn wsX11_closedLoops (wsV RX11 174 RX11 yX11_currentOrientation wsX11_currentOrientation) := goodIn_app (goodIn_of _ (by decide +kernel)) ggX11_closedLoops_X11_currentOrientation
set_option maxRecDepth 20000 in
theorem ggX11_closedLoops_X11_errorOfLoop : GoodIn wsX11_closedLoops wsX11_errorOfLoop := goodIn_r _ [106, 1, 2, 11, 107, 108, 109, 110, 111, 112, 92, 32, 93, 18, 19, 20, 7, 21, 22, 23, 24, 3, 25, 26, 27, 28, 29, 30, 31, 33, 34, 35, 36, 37, 38, 39, 40, 41, 42, 43, 44, 45, 46, 47, 48, 49, 50, 51, 52, 53, 54, 55, 56, 57, 58, 59, 60, 61, 62, 63, 64, 65, 66, 67, 68, 69, 70, 71, 72, 73, 74, 75, 76, 77, 78, 79, 80, 81, 82, 83, 84, 85, 86, 87, 88, 89, 90, 91, 94, 95, 96, 97, 98, 99, 100, 101, 102, 113, 114, 115, 116, 117, 118, 119, 120, 121, 122, 123, 124, 125, 126, 127, 128, 129, 130, 131, 132, 133, 134, 135, 136, 137, 138, 139, 140, 141, 142, 143, 144, 145, 146, 147, 148, 149, 150, 151, 152, 153, 154, 155, 156, 157, 158, 159, 160, 161, 162, 163, 164, 165, 166, 167, 168, 169, 170, 171, 172, 175, 176, 177, 178, 179, 180, 173, 174] (by decide +kernel) (by decide +kernel)
set_option maxRecDepth 20000 in
theorem gX11_closedLoops_X11_errorOfLoop : GoodIn wsX11_closedLoops (wsV RX11 232 RX11 yX11_errorOfLoop wsX11_errorOfLoop) := goodIn_app (goodIn_of _ (by decide +kernel)) ggX11_closedLoops_X11_errorOfLoop
theorem dX11_closedLoops_0 : decode cX11_closedLoops 0 = .ok (.aload_n 0, 1) := by decide +kernel
theorem dX11_closedLoops_1 : decode cX11_closedLoops 1 = .ok (.iload_n 1, 1) := by decide +kernel
theorem dX11_closedLoops_2 : decode cX11_closedLoops 2 = .ok (.invokevirtual 216, 3) := by decide +kernel
theorem dX11_closedLoops_5 : decode cX11_closedLoops 5 = .ok (.aload_n 0, 1) := by decide +kernel
theorem dX11_closedLoops_6 : decode cX11_closedLoops 6 = .ok (.invokevirtual 174, 3) := by decide +kernel
theorem dX11_closedLoops_9 : decode cX11_closedLoops 9 = .ok (.getfield 235, 3) := by decide +kernel
theorem dX11_closedLoops_12 : decode cX11_closedLoops 12 = .ok (.istore_n 2, 1) := by decide +kernel
theorem dX11_closedLoops_13 : decode cX11_closedLoops 13 = .ok (.iload_n 2, 1) := by decide +kernel
theorem dX11_closedLoops_14 : decode cX11_closedLoops 14 = .ok (.iconst (-1), 1) := by decide +kernel
theorem dX11_closedLoops_15 : decode cX11_closedLoops 15 = .ok (.if_icmp .ne 5, 3) := by decide +kernel
theorem dX11_closedLoops_18 : decode cX11_closedLoops 18 = .ok (.iconst 0, 1) := by decide +kernel
theorem dX11_closedLoops_19 : decode cX11_closedLoops 19 = .ok (.ireturn, 1) := by decide +kernel
theorem dX11_closedLoops_20 : decode cX11_closedLoops 20 = .ok (.iconst 0, 1) := by decide +kernel
theorem dX11_closedLoops_21 : decode cX11_closedLoops 21 = .ok (.istore_n 3, 1) := by decide +kernel
theorem dX11_closedLoops_22 : decode cX11_closedLoops 22 = .ok (.iload_n 2, 1) := by decide +kernel
theorem dX11_closedLoops_23 : decode cX11_closedLoops 23 = .ok (.iconst 1, 1) := by decide +kernel
theorem dX11_closedLoops_24 : decode cX11_closedLoops 24 = .ok (.iadd, 1) := by decide +kernel
theorem dX11_closedLoops_25 : decode cX11_closedLoops 25 = .ok (.istore 4, 2) := by decide +kernel
theorem dX11_closedLoops_27 : decode cX11_closedLoops 27 = .ok (.iload 4, 2) := by decide +kernel
theorem dX11_closedLoops_29 : decode cX11_closedLoops 29 = .ok (.aload_n 0, 1) := by decide +kernel
theorem dX11_closedLoops_30 : decode cX11_closedLoops 30 = .ok (.getfield 10, 3) := by decide +kernel
theorem dX11_closedLoops_33 : decode cX11_closedLoops 33 = .ok (.getfield 95, 3) := by decide +kernel
theorem dX11_closedLoops_36 : decode cX11_closedLoops 36 = .ok (.if_icmp .ge 48, 3) := by decide +kernel
theorem dX11_closedLoops_39 : decode cX11_closedLoops 39 = .ok (.iload 4, 2) := by decide +kernel
theorem dX11_closedLoops_41 : decode cX11_closedLoops 41 = .ok (.iconst 1, 1) := by decide +kernel
theorem dX11_closedLoops_42 : decode cX11_closedLoops 42 = .ok (.iadd, 1) := by decide +kernel
theorem dX11_closedLoops_43 : decode cX11_closedLoops 43 = .ok (.istore 5, 2) := by decide +kernel
theorem dX11_closedLoops_45 : decode cX11_closedLoops 45 = .ok (.iload 5, 2) := by decide +kernel
theorem dX11_closedLoops_47 : decode cX11_closedLoops 47 = .ok (.aload_n 0, 1) := by decide +kernel
theorem dX11_closedLoops_48 : decode cX11_closedLoops 48 = .ok (.getfield 10, 3) := by decide +kernel
theorem dX11_closedLoops_51 : decode cX11_closedLoops 51 = .ok (.getfield 95, 3) := by decide +kernel
theorem dX11_closedLoops_54 : decode cX11_closedLoops 54 = .ok (.if_icmp .ge 24, 3) := by decide +kernel
theorem dX11_closedLoops_57 : decode cX11_closedLoops 57 = .ok (.aload_n 0, 1) := by decide +kernel
theorem dX11_closedLoops_58 : decode cX11_closedLoops 58 = .ok (.iload_n 1, 1) := by decide +kernel
theorem dX11_closedLoops_59 : decode cX11_closedLoops 59 = .ok (.iload 4, 2) := by decide +kernel
theorem dX11_closedLoops_61 : decode cX11_closedLoops 61 = .ok (.iload 5, 2) := by decide +kernel
theorem dX11_closedLoops_63 : decode cX11_closedLoops 63 = .ok (.invokevirtual 232, 3) := by decide +kernel
theorem dX11_closedLoops_66 : decode cX11_closedLoops 66 = .ok (.ifCond .ne 6, 3) := by decide +kernel
theorem dX11_closedLoops_69 : decode cX11_closedLoops 69 = .ok (.iinc 3 1, 3) := by decide +kernel
theorem dX11_closedLoops_72 : decode cX11_closedLoops 72 = .ok (.iinc 5 1, 3) := by decide +kernel
theorem dX11_closedLoops_75 : decode cX11_closedLoops 75 = .ok (.goto (-30), 3) := by decide +kernel
theorem dX11_closedLoops_78 : decode cX11_closedLoops 78 = .ok (.iinc 4 1, 3) := by decide +kernel
theorem dX11_closedLoops_81 : decode cX11_closedLoops 81 = .ok (.goto (-54), 3) := by decide +kernel
theorem dX11_closedLoops_84 : decode cX11_closedLoops 84 = .ok (.iload_n 3, 1) := by decide +kernel
theorem dX11_closedLoops_85 : decode cX11_closedLoops 85 = .ok (.ireturn, 1) := by decide +kernel
set_option maxRecDepth 20000 in
theorem ggX11_leastTolerance_X11_requireFeature : GoodIn wsX11_leastTolerance wsX11_requireFeature := goodIn_ca (goodIn_r _ [12, 13, 14, 2, 15, 16, 17, 18, 19, 20, 21, 193, 194, 195, 196, 197, 198, 199, 200, 201, 212, 213, 214, 215, 216, 217, 218, 219, 220, 221, 222, 223, 224] (by decide +kernel) (by decide +kernel)) (goodIn_sub (fun _ h => List.mem_cons_of_mem _ (List.mem_append_right _ h)) (by decide +kernel))
set_option maxRecDepth 20000 in
theorem gX11_leastTolerance_X11_requireFeature : GoodIn wsX11_leastTolerance (wsV RX11 216 RX11 yX11_requireFeature wsX11_requireFeature) := goodIn_app (goodIn_of _ (by decide +kernel)) ggX11_leastTolerance_X11_requireFeature
set_option maxRecDepth 20000 in
theorem ggX11_leastTolerance_X11_currentOrientation : GoodIn wsX11_leastTolerance wsX11_currentOrientation := goodIn_r _ [25, 26, 27, 28, 2, 29, 30, 31, 32, 33, 34, 35, 36, 37, 38, 39, 40, 41, 42, 43, 44, 45, 46, 47, 48, 49, 50, 51, 52, 53, 54, 55, 56, 57, 58, 59, 60, 61, 62, 63, 64, 65, 66, 67, 68, 69, 70, 71, 72, 73, 74, 75, 76, 77, 78, 79, 80, 81, 82, 83, 84, 85, 86, 87, 88, 89, 90, 91, 92, 93, 94, 95, 96, 97, 98, 99, 100, 101, 102, 103, 104, 105, 106, 107, 193, 194, 195, 196, 197, 198, 199, 200, 201, 225, 226, 227, 228, 229, 230, 212, 213, 214, 215, 216, 217, 218, 219, 220, 231, 232, 221, 222, 223, 224] (by decide +kernel) (by decide +kernel)
set_option maxRecDepth 20000 in
theorem gX11_leastTolerance_X11_currentOrientation : GoodIn wsX11_leastTolerance (wsV RX11 174 RX11 yX11_currentOrientation wsX11_currentOrientation) := goodIn_app (goodIn_of _ (by decide +kernel)) ggX11_leastTolerance_X11_currentOrientation
set_option maxRecDepth 20000 in
theorem ggX11_leastTolerance_X10_trace : GoodIn wsX11_leastTolerance wsX10_trace := goodIn_r _ [112, 113, 114, 115, 116, 117, 118, 119, 120, 121, 17, 18, 19, 20, 21, 122, 123, 124, 111, 125, 126, 127, 128, 129, 130, 131, 132, 133, 134, 33, 135, 53, 136, 45, 46, 47, 48, 39, 137, 138, 139, 63, 140, 71, 104, 105, 106, 107, 66, 141, 142, 143, 144, 72, 145, 146, 147, 148, 44, 149, 150, 151, 152, 153, 154, 155, 156, 157, 97, 37, 98, 158, 36, 38, 159, 160, 161, 162, 163, 164, 165, 166, 167, 168, 169, 170, 171, 172, 89, 90, 91, 56, 55, 173, 174, 175, 93, 94, 95, 54, 96, 88, 176, 177, 178, 179, 180, 181, 182, 183, 184, 185, 186, 187, 188, 202, 203, 204, 205, 206, 207, 208, 209, 210, 211, 225, 226, 227, 228, 229, 230, 212, 213, 214, 215, 216, 217, 218, 219, 220, 221, 222, 223, 224, 231, 232, 233, 234, 235, 236, 237, 238] (by decide +kernel) (by decide +kernel)
set_option maxRecDepth 20000 in
theorem gX11_leastTolerance_X10_trace : GoodIn wsX11_leastTolerance (wsV RX11 238 RX10 yX10_trace wsX10_trace) := goodIn_app (goodIn_of _ (by decide +kernel)) ggX11_leastTolerance_X10_trace
set_option maxRecDepth 20000 in
theorem ggX11_leastTolerance_X8_windowPixels : GoodIn wsX11_leastTolerance wsX8_windowPixels := goodIn_r _ [148, 44, 212, 213, 214, 215, 216, 217, 218, 219, 220] (by decide +kernel) (by decide +kernel)
set_option maxRecDepth 20000 in
theorem gX11_leastTolerance_X8_windowPixels : GoodIn wsX11_leastTolerance (wsV RX11 243 RX8 yX8_windowPixels wsX8_windowPixels) := goodIn_app (goodIn_of _ (by decide +kernel)) ggX11_leastTolerance_X8_windowPixels
set_option maxRecDepth 20000 in
theorem ggX11_leastTolerance_X11_quotient : GoodIn wsX11_leastTolerance wsX11_quotient := goodIn_r _ [192] (by decide +kernel) (by decide +kernel)
set_option maxRecDepth 20000 in
theorem gX11_leastTolerance_X11_quotient : GoodIn wsX11_leastTolerance (va_wsS RX11 250 yX11_quotient wsX11_quotient) := goodIn_app (goodIn_of _ (by decide +kernel)) ggX11_leastTolerance_X11_quotient
theorem dX11_leastTolerance_0 : decode cX11_leastTolerance 0 = .ok (.aload_n 0, 1) := by decide +kernel
theorem dX11_leastTolerance_1 : decode cX11_leastTolerance 1 = .ok (.iload_n 1, 1) := by decide +kernel
theorem dX11_leastTolerance_2 : decode cX11_leastTolerance 2 = .ok (.invokevirtual 216, 3) := by decide +kernel
theorem dX11_leastTolerance_5 : decode cX11_leastTolerance 5 = .ok (.aload_n 0, 1) := by decide +kernel
theorem dX11_leastTolerance_6 : decode cX11_leastTolerance 6 = .ok (.getfield 51, 3) := by decide +kernel
theorem dX11_leastTolerance_9 : decode cX11_leastTolerance 9 = .ok (.aload_n 0, 1) := by decide +kernel
theorem dX11_leastTolerance_10 : decode cX11_leastTolerance 10 = .ok (.getfield 10, 3) := by decide +kernel
theorem dX11_leastTolerance_13 : decode cX11_leastTolerance 13 = .ok (.aload_n 0, 1) := by decide +kernel
theorem dX11_leastTolerance_14 : decode cX11_leastTolerance 14 = .ok (.invokevirtual 174, 3) := by decide +kernel
theorem dX11_leastTolerance_17 : decode cX11_leastTolerance 17 = .ok (.aload_n 0, 1) := by decide +kernel
theorem dX11_leastTolerance_18 : decode cX11_leastTolerance 18 = .ok (.getfield 40, 3) := by decide +kernel
theorem dX11_leastTolerance_21 : decode cX11_leastTolerance 21 = .ok (.iload_n 1, 1) := by decide +kernel
theorem dX11_leastTolerance_22 : decode cX11_leastTolerance 22 = .ok (.getstatic 124, 3) := by decide +kernel
theorem dX11_leastTolerance_25 : decode cX11_leastTolerance 25 = .ok (.iconst 4, 1) := by decide +kernel
theorem dX11_leastTolerance_26 : decode cX11_leastTolerance 26 = .ok (.iaload, 1) := by decide +kernel
theorem dX11_leastTolerance_27 : decode cX11_leastTolerance 27 = .ok (.invokevirtual 238, 3) := by decide +kernel
theorem dX11_leastTolerance_30 : decode cX11_leastTolerance 30 = .ok (.aload_n 0, 1) := by decide +kernel
theorem dX11_leastTolerance_31 : decode cX11_leastTolerance 31 = .ok (.getfield 51, 3) := by decide +kernel
theorem dX11_leastTolerance_34 : decode cX11_leastTolerance 34 = .ok (.getfield 242, 3) := by decide +kernel
theorem dX11_leastTolerance_37 : decode cX11_leastTolerance 37 = .ok (.ifCond .eq 13, 3) := by decide +kernel
theorem dX11_leastTolerance_40 : decode cX11_leastTolerance 40 = .ok (.aload_n 0, 1) := by decide +kernel
theorem dX11_leastTolerance_41 : decode cX11_leastTolerance 41 = .ok (.getfield 51, 3) := by decide +kernel
theorem dX11_leastTolerance_44 : decode cX11_leastTolerance 44 = .ok (.getfield 229, 3) := by decide +kernel
theorem dX11_leastTolerance_47 : decode cX11_leastTolerance 47 = .ok (.ifCond .le 5, 3) := by decide +kernel
theorem dX11_leastTolerance_50 : decode cX11_leastTolerance 50 = .ok (.iconst (-1), 1) := by decide +kernel
theorem dX11_leastTolerance_51 : decode cX11_leastTolerance 51 = .ok (.ireturn, 1) := by decide +kernel
theorem dX11_leastTolerance_52 : decode cX11_leastTolerance 52 = .ok (.aload_n 0, 1) := by decide +kernel
theorem dX11_leastTolerance_53 : decode cX11_leastTolerance 53 = .ok (.getfield 10, 3) := by decide +kernel
theorem dX11_leastTolerance_56 : decode cX11_leastTolerance 56 = .ok (.invokevirtual 243, 3) := by decide +kernel
theorem dX11_leastTolerance_59 : decode cX11_leastTolerance 59 = .ok (.istore_n 2, 1) := by decide +kernel
theorem dX11_leastTolerance_60 : decode cX11_leastTolerance 60 = .ok (.aload_n 0, 1) := by decide +kernel
theorem dX11_leastTolerance_61 : decode cX11_leastTolerance 61 = .ok (.getfield 51, 3) := by decide +kernel
theorem dX11_leastTolerance_64 : decode cX11_leastTolerance 64 = .ok (.getfield 247, 3) := by decide +kernel
theorem dX11_leastTolerance_67 : decode cX11_leastTolerance 67 = .ok (.iload_n 2, 1) := by decide +kernel
theorem dX11_leastTolerance_68 : decode cX11_leastTolerance 68 = .ok (.iadd, 1) := by decide +kernel
theorem dX11_leastTolerance_69 : decode cX11_leastTolerance 69 = .ok (.iconst 1, 1) := by decide +kernel
theorem dX11_leastTolerance_70 : decode cX11_leastTolerance 70 = .ok (.isub, 1) := by decide +kernel
theorem dX11_leastTolerance_71 : decode cX11_leastTolerance 71 = .ok (.iload_n 2, 1) := by decide +kernel
theorem dX11_leastTolerance_72 : decode cX11_leastTolerance 72 = .ok (.invokestatic 250, 3) := by decide +kernel
theorem dX11_leastTolerance_75 : decode cX11_leastTolerance 75 = .ok (.ireturn, 1) := by decide +kernel
set_option maxRecDepth 20000 in
theorem ggX11_segmentCount_X11_requireFeature : GoodIn wsX11_segmentCount wsX11_requireFeature := goodIn_ca (goodIn_r _ [5, 6, 7, 8, 9, 10, 11, 12, 13, 14, 15, 195, 196, 197, 198, 199, 200, 201, 202, 203, 204, 205, 206, 207, 208, 209, 210, 211, 212, 213, 214, 215, 216] (by decide +kernel) (by decide +kernel)) (goodIn_sub (fun _ h => List.mem_cons_of_mem _ (List.mem_append_right _ h)) (by decide +kernel))
set_option maxRecDepth 20000 in
theorem gX11_segmentCount_X11_requireFeature : GoodIn wsX11_segmentCount (wsV RX11 216 RX11 yX11_requireFeature wsX11_requireFeature) := goodIn_app (goodIn_of _ (by decide +kernel)) ggX11_segmentCount_X11_requireFeature
set_option maxRecDepth 20000 in
theorem ggX11_segmentCount_X11_trackOf : GoodIn wsX11_segmentCount wsX11_trackOf := goodIn_r _ [19, 20, 21, 22, 8, 23, 24, 25, 26, 27, 4, 28, 29, 30, 31, 32, 33, 34, 35, 36, 37, 38, 39, 40, 41, 42, 43, 44, 45, 46, 47, 48, 49, 50, 51, 52, 53, 54, 55, 56, 57, 58, 59, 60, 61, 62, 63, 64, 65, 66, 67, 68, 69, 70, 71, 72, 73, 74, 75, 76, 77, 78, 79, 80, 81, 82, 83, 84, 85, 86, 87, 88, 89, 90, 91, 92, 93, 94, 95, 96, 97, 98, 99, 100, 101, 102, 103, 104, 105, 106, 107, 108, 109, 110, 111, 112, 113, 114, 115, 116, 117, 118, 119, 120, 121, 122, 123, 11, 12, 13, 14, 15, 124, 125, 126, 127, 128, 129, 130, 131, 132, 133, 134, 135, 136, 137, 138, 139, 140, 141, 142, 143, 144, 145, 146, 147, 148, 149, 150, 151, 152, 153, 154, 155, 156, 157, 158, 159, 160, 161, 162, 163, 164, 165, 166, 167, 168, 169, 170, 171, 172, 173, 174, 175, 176, 177, 178, 179, 180, 181, 182, 183, 184, 185, 186, 187, 188, 189, 190, 195, 196, 197, 198, 199, 200, 201, 202, 203, 217, 218, 219, 220, 221, 222, 223, 224, 225, 226, 204, 205, 206, 207, 208, 209, 210, 211, 212, 227, 228, 229, 230, 231, 232, 233, 234, 213, 214, 215, 216, 235, 236, 237, 238, 239, 240] (by decide +kernel) (by decide +kernel)
set_option maxRecDepth 20000 in
theorem gX11_segmentCount_X11_trackOf : GoodIn wsX11_segmentCount (wsV RX11 219 RX11 yX11_trackOf wsX11_trackOf) := goodIn_app (goodIn_of _ (by decide +kernel)) ggX11_segmentCount_X11_trackOf
set_option maxRecDepth 20000 in
theorem ggX11_segmentCount_X10_segments : GoodIn wsX11_segmentCount wsX10_segments := goodIn_r _ [194, 115, 160, 38, 39, 40, 217, 218, 219, 220, 221, 222, 223, 224, 225, 226] (by decide +kernel) (by decide +kernel)
set_option maxRecDepth 20000 in
theorem gX11_segmentCount_X10_segments : GoodIn wsX11_segmentCount (wsV RX11 254 RX10 yX10_segments wsX10_segments) := goodIn_app (goodIn_of _ (by decide +kernel)) ggX11_segmentCount_X10_segments
theorem dX11_segmentCount_0 : decode cX11_segmentCount 0 = .ok (.aload_n 0, 1) := by decide +kernel
theorem dX11_segmentCount_1 : decode cX11_segmentCount 1 = .ok (.iload_n 1, 1) := by decide +kernel
theorem dX11_segmentCount_2 : decode cX11_segmentCount 2 = .ok (.invokevirtual 216, 3) := by decide +kernel
theorem dX11_segmentCount_5 : decode cX11_segmentCount 5 = .ok (.aload_n 0, 1) := by decide +kernel
theorem dX11_segmentCount_6 : decode cX11_segmentCount 6 = .ok (.iload_n 1, 1) := by decide +kernel
theorem dX11_segmentCount_7 : decode cX11_segmentCount 7 = .ok (.invokevirtual 219, 3) := by decide +kernel
theorem dX11_segmentCount_10 : decode cX11_segmentCount 10 = .ok (.invokevirtual 254, 3) := by decide +kernel
theorem dX11_segmentCount_13 : decode cX11_segmentCount 13 = .ok (.ireturn, 1) := by decide +kernel
set_option maxRecDepth 20000 in
theorem ggX11_speed_X11_requireFeature : GoodIn wsX11_speed wsX11_requireFeature := goodIn_ca (goodIn_r _ [7, 8, 9, 1, 10, 11, 12, 13, 14, 15, 16, 216, 217, 218, 219, 220, 221, 222, 223, 224, 225, 226, 227, 228, 229, 230, 231, 232, 233, 234, 235, 236, 237] (by decide +kernel) (by decide +kernel)) (goodIn_sub (fun _ h => List.mem_cons_of_mem _ (List.mem_append_right _ h)) (by decide +kernel))
set_option maxRecDepth 20000 in
theorem gX11_speed_X11_requireFeature : GoodIn wsX11_speed (wsV RX11 216 RX11 yX11_requireFeature wsX11_requireFeature) := goodIn_app (goodIn_of _ (by decide +kernel)) ggX11_speed_X11_requireFeature
set_option maxRecDepth 20000 in
theorem ggX11_speed_X11_trackOf : GoodIn wsX11_speed wsX11_trackOf := goodIn_r _ [20, 21, 22, 23, 1, 24, 2, 25, 26, 27, 6, 28, 29, 30, 31, 32, 33, 34, 35, 36, 37, 38, 39, 40, 41, 42, 43, 44, 45, 46, 47, 48, 49, 50, 51, 52, 53, 54, 55, 56, 57, 58, 59, 60, 61, 62, 63, 64, 65, 66, 67, 68, 69, 70, 71, 72, 73, 74, 75, 76, 77, 78, 79, 80, 81, 82, 83, 84, 85, 86, 87, 88, 89, 90, 91, 92, 93, 94, 95, 96, 97, 98, 99, 100, 101, 102, 103, 104, 105, 106, 107, 108, 109, 110, 111, 112, 113, 114, 115, 116, 117, 118, 119, 120, 121, 122, 123, 12, 13, 14, 15, 16, 124, 125, 126, 127, 128, 129, 130, 131, 132, 133, 134, 135, 136, 137, 138, 139, 140, 141, 142, 143, 144, 145, 146, 147, 148, 149, 150, 151, 152, 153, 154, 155, 156, 157, 158, 159, 160, 161, 162, 163, 164, 165, 166, 167, 168, 169, 170, 171, 172, 173, 174, 175, 176, 177, 178, 179, 180, 181, 182, 183, 184, 185, 186, 187, 188, 189, 190, 216, 217, 218, 219, 220, 221, 222, 223, 224, 238, 239, 240, 241, 242, 243, 244, 245, 246, 247, 225, 226, 227, 228, 229, 230, 231, 232, 233, 248, 249, 250, 251, 252, 253, 254, 255, 234, 235, 236, 237, 256, 257, 258, 259, 260, 261] (by decide +kernel) (by decide +kernel)
set_option maxRecDepth 20000 in
theorem gX11_speed_X11_trackOf : GoodIn wsX11_speed (wsV RX11 219 RX11 yX11_trackOf wsX11_trackOf) := goodIn_app (goodIn_of _ (by decide +kernel)) ggX11_speed_X11_trackOf
set_option maxRecDepth 20000 in
theorem ggX11_speed_X11_requireSegment : GoodIn wsX11_speed wsX11_requireSegment := goodIn_ca (goodIn_r _ [193, 8, 9, 194, 195, 196, 113, 197, 115, 238, 239, 240, 241, 242, 243, 244, 245, 246, 247] (by decide +kernel) (by decide +kernel)) (goodIn_sub (fun _ h => List.mem_cons_of_mem _ (List.mem_append_right _ h)) (by decide +kernel))
set_option maxRecDepth 20000 in
theorem gX11_speed_X11_requireSegment : GoodIn wsX11_speed (va_wsS RX11 257 yX11_requireSegment wsX11_requireSegment) := goodIn_app (goodIn_of _ (by decide +kernel)) ggX11_speed_X11_requireSegment
set_option maxRecDepth 20000 in
theorem ggX11_speed_X10_speedOf : GoodIn wsX11_speed wsX10_speedOf := goodIn_r _ [201, 202, 203, 204, 113, 205, 132, 133, 206, 195, 196, 197, 115, 207, 6, 208, 209, 210, 211, 212, 213, 129, 161, 162, 163, 164, 214, 215, 238, 239, 240, 241, 242, 243, 244, 245, 246, 247] (by decide +kernel) (by decide +kernel)
set_option maxRecDepth 20000 in
theorem gX11_speed_X10_speedOf : GoodIn wsX11_speed (wsV RX11 261 RX10 yX10_speedOf wsX10_speedOf) := goodIn_app (goodIn_of _ (by decide +kernel)) ggX11_speed_X10_speedOf
theorem dX11_speed_0 : decode cX11_speed 0 = .ok (.aload_n 0, 1) := by decide +kernel
theorem dX11_speed_1 : decode cX11_speed 1 = .ok (.iload_n 1, 1) := by decide +kernel
theorem dX11_speed_2 : decode cX11_speed 2 = .ok (.invokevirtual 216, 3) := by decide +kernel
theorem dX11_speed_5 : decode cX11_speed 5 = .ok (.aload_n 0, 1) := by decide +kernel
theorem dX11_speed_6 : decode cX11_speed 6 = .ok (.iload_n 1, 1) := by decide +kernel
theorem dX11_speed_7 : decode cX11_speed 7 = .ok (.invokevirtual 219, 3) := by decide +kernel
theorem dX11_speed_10 : decode cX11_speed 10 = .ok (.astore_n 3, 1) := by decide +kernel
theorem dX11_speed_11 : decode cX11_speed 11 = .ok (.aload_n 3, 1) := by decide +kernel
theorem dX11_speed_12 : decode cX11_speed 12 = .ok (.iload_n 2, 1) := by decide +kernel
theorem dX11_speed_13 : decode cX11_speed 13 = .ok (.invokestatic 257, 3) := by decide +kernel
theorem dX11_speed_16 : decode cX11_speed 16 = .ok (.aload_n 3, 1) := by decide +kernel
theorem dX11_speed_17 : decode cX11_speed 17 = .ok (.iload_n 2, 1) := by decide +kernel
theorem dX11_speed_18 : decode cX11_speed 18 = .ok (.aload_n 0, 1) := by decide +kernel
theorem dX11_speed_19 : decode cX11_speed 19 = .ok (.getfield 10, 3) := by decide +kernel
theorem dX11_speed_22 : decode cX11_speed 22 = .ok (.getfield 117, 3) := by decide +kernel
theorem dX11_speed_25 : decode cX11_speed 25 = .ok (.iconst 5, 1) := by decide +kernel
theorem dX11_speed_26 : decode cX11_speed 26 = .ok (.iaload, 1) := by decide +kernel
theorem dX11_speed_27 : decode cX11_speed 27 = .ok (.invokevirtual 261, 3) := by decide +kernel
theorem dX11_speed_30 : decode cX11_speed 30 = .ok (.ireturn, 1) := by decide +kernel
set_option maxRecDepth 20000 in
theorem ggX11_meanSpeed_X11_requireFeature : GoodIn wsX11_meanSpeed wsX11_requireFeature := goodIn_ca (goodIn_r _ [7, 8, 9, 1, 10, 11, 12, 13, 14, 15, 16, 216, 217, 218, 219, 220, 221, 222, 223, 224, 225, 226, 227, 228, 229, 230, 231, 232, 233, 234, 235, 236, 237] (by decide +kernel) (by decide +kernel)) (goodIn_sub (fun _ h => List.mem_cons_of_mem _ (List.mem_append_right _ h)) (by decide +kernel))
set_option maxRecDepth 20000 in
theorem gX11_meanSpeed_X11_requireFeature : GoodIn wsX11_meanSpeed (wsV RX11 216 RX11 yX11_requireFeature wsX11_requireFeature) := goodIn_app (goodIn_of _ (by decide +kernel)) ggX11_meanSpeed_X11_requireFeature
set_option maxRecDepth 20000 in
theorem ggX11_meanSpeed_X11_trackOf : GoodIn wsX11_meanSpeed wsX11_trackOf := goodIn_r _ [20, 21, 22, 23, 1, 24, 2, 25, 26, 27, 6, 28, 29, 30, 31, 32, 33, 34, 35, 36, 37, 38, 39, 40, 41, 42, 43, 44, 45, 46, 47, 48, 49, 50, 51, 52, 53, 54, 55, 56, 57, 58, 59, 60, 61, 62, 63, 64, 65, 66, 67, 68, 69, 70, 71, 72, 73, 74, 75, 76, 77, 78, 79, 80, 81, 82, 83, 84, 85, 86, 87, 88, 89, 90, 91, 92, 93, 94, 95, 96, 97, 98, 99, 100, 101, 102, 103, 104, 105, 106, 107, 108, 109, 110, 111, 112, 113, 114, 115, 116, 117, 118, 119, 120, 121, 122, 123, 12, 13, 14, 15, 16, 124, 125, 126, 127, 128, 129, 130, 131, 132, 133, 134, 135, 136, 137, 138, 139, 140, 141, 142, 143, 144, 145, 146, 147, 148, 149, 150, 151, 152, 153, 154, 155, 156, 157, 158, 159, 160, 161, 162, 163, 164, 165, 166, 167, 168, 169, 170, 171, 172, 173, 174, 175, 176, 177, 178, 179, 180, 181, 182, 183, 184, 185, 186, 187, 188, 189, 190, 216, 217, 218, 219, 220, 221, 222, 223, 224, 238, 239, 240, 241, 242, 243, 244, 245, 246, 247, 225, 226, 227, 228, 229, 230, 231, 232, 233, 248, 249, 250, 251, 252, 253, 254, 255, 234, 235, 236, 237, 256, 257, 258, 259, 260, 261] (by decide +kernel) (by decide +kernel)
set_option maxRecDepth 20000 in
theorem gX11_meanSpeed_X11_trackOf : GoodIn wsX11_meanSpeed (wsV RX11 219 RX11 yX11_trackOf wsX11_trackOf) := goodIn_app (goodIn_of _ (by decide +kernel)) ggX11_meanSpeed_X11_trackOf
set_option maxRecDepth 20000 in
theorem ggX11_meanSpeed_X10_averageSpeed : GoodIn wsX11_meanSpeed wsX10_averageSpeed := goodIn_r _ [194, 115, 195, 196, 197, 113, 198, 160, 38, 39, 40, 199, 200, 201, 202, 132, 133, 203, 204, 205, 206, 207, 6, 208, 209, 210, 211, 212, 213, 129, 161, 162, 163, 164, 214, 215, 238, 239, 240, 241, 242, 243, 244, 245, 246, 247] (by decide +kernel) (by decide +kernel)
set_option maxRecDepth 20000 in
theorem gX11_meanSpeed_X10_averageSpeed : GoodIn wsX11_meanSpeed (wsV RX11 264 RX10 yX10_averageSpeed wsX10_averageSpeed) := goodIn_app (goodIn_of _ (by decide +kernel)) ggX11_meanSpeed_X10_averageSpeed
theorem dX11_meanSpeed_0 : decode cX11_meanSpeed 0 = .ok (.aload_n 0, 1) := by decide +kernel
theorem dX11_meanSpeed_1 : decode cX11_meanSpeed 1 = .ok (.iload_n 1, 1) := by decide +kernel
theorem dX11_meanSpeed_2 : decode cX11_meanSpeed 2 = .ok (.invokevirtual 216, 3) := by decide +kernel
theorem dX11_meanSpeed_5 : decode cX11_meanSpeed 5 = .ok (.aload_n 0, 1) := by decide +kernel
theorem dX11_meanSpeed_6 : decode cX11_meanSpeed 6 = .ok (.iload_n 1, 1) := by decide +kernel
theorem dX11_meanSpeed_7 : decode cX11_meanSpeed 7 = .ok (.invokevirtual 219, 3) := by decide +kernel
theorem dX11_meanSpeed_10 : decode cX11_meanSpeed 10 = .ok (.aload_n 0, 1) := by decide +kernel
theorem dX11_meanSpeed_11 : decode cX11_meanSpeed 11 = .ok (.getfield 10, 3) := by decide +kernel
theorem dX11_meanSpeed_14 : decode cX11_meanSpeed 14 = .ok (.getfield 117, 3) := by decide +kernel
theorem dX11_meanSpeed_17 : decode cX11_meanSpeed 17 = .ok (.iconst 5, 1) := by decide +kernel
theorem dX11_meanSpeed_18 : decode cX11_meanSpeed 18 = .ok (.iaload, 1) := by decide +kernel
theorem dX11_meanSpeed_19 : decode cX11_meanSpeed 19 = .ok (.invokevirtual 264, 3) := by decide +kernel
theorem dX11_meanSpeed_22 : decode cX11_meanSpeed 22 = .ok (.ireturn, 1) := by decide +kernel
set_option maxRecDepth 20000 in
theorem ggX11_meanSpeedWithScale_X11_requireFeature : GoodIn wsX11_meanSpeedWithScale wsX11_requireFeature := goodIn_ca (goodIn_r _ [7, 8, 9, 10, 11, 12, 13, 14, 15, 16, 17, 221, 222, 223, 224, 225, 226, 227, 228, 229, 230, 231, 232, 233, 234, 235, 236, 237, 238, 239, 240, 241, 242] (by decide +kernel) (by decide +kernel)) (goodIn_sub (fun _ h => List.mem_cons_of_mem _ (List.mem_append_right _ h)) (by decide +kernel))
set_option maxRecDepth 20000 in
theorem gX11_meanSpeedWithScale_X11_requireFeature : GoodIn wsX11_meanSpeedWithScale (wsV RX11 216 RX11 yX11_requireFeature wsX11_requireFeature) := goodIn_app (goodIn_of _ (by decide +kernel)) ggX11_meanSpeedWithScale_X11_requireFeature
set_option maxRecDepth 20000 in
theorem ggX11_meanSpeedWithScale_X11_isBetween : GoodIn wsX11_meanSpeedWithScale wsX11_isBetween := goodIn_r _ [20] (by decide +kernel) (by decide +kernel)
set_option maxRecDepth 20000 in
theorem gX11_meanSpeedWithScale_X11_isBetween : GoodIn wsX11_meanSpeedWithScale (va_wsS RX11 127 yX11_isBetween wsX11_isBetween) := goodIn_app (goodIn_of _ (by decide +kernel)) ggX11_meanSpeedWithScale_X11_isBetween
set_option maxRecDepth 20000 in
theorem ggX11_meanSpeedWithScale_X11_trackOf : GoodIn wsX11_meanSpeedWithScale wsX11_trackOf := goodIn_r _ [24, 25, 26, 27, 10, 28, 29, 30, 31, 32, 6, 33, 34, 35, 36, 37, 38, 39, 40, 41, 42, 43, 44, 45, 46, 47, 48, 49, 50, 51, 52, 53, 54, 55, 56, 57, 58, 59, 60, 61, 62, 63, 64, 65, 66, 67, 68, 69, 70, 71, 72, 73, 74, 75, 76, 77, 78, 79, 80, 81, 82, 83, 84, 85, 86, 87, 88, 89, 90, 91, 92, 93, 94, 95, 96, 97, 98, 99, 100, 101, 102, 103, 104, 105, 106, 107, 108, 109, 110, 111, 112, 113, 114, 115, 116, 117, 118, 119, 120, 121, 122, 123, 124, 125, 126, 127, 128, 13, 14, 15, 16, 17, 129, 130, 131, 132, 133, 134, 135, 136, 137, 138, 139, 140, 141, 142, 143, 144, 145, 146, 147, 148, 149, 150, 151, 152, 153, 154, 155, 156, 157, 158, 159, 160, 161, 162, 163, 164, 165, 166, 167, 168, 169, 170, 171, 172, 173, 174, 175, 176, 177, 178, 179, 180, 181, 182, 183, 184, 185, 186, 187, 188, 189, 190, 191, 192, 193, 194, 195, 221, 222, 223, 224, 225, 226, 227, 228, 229, 243, 244, 245, 246, 247, 248, 249, 250, 251, 252, 230, 231, 232, 233, 234, 235, 236, 237, 238, 253, 254, 255, 256, 257, 258, 259, 260, 239, 240, 241, 242, 261, 262, 263, 264, 265, 266] (by decide +kernel) (by decide +kernel)
set_option maxRecDepth 20000 in
theorem gX11_meanSpeedWithScale_X11_trackOf : GoodIn wsX11_meanSpeedWithScale (wsV RX11 219 RX11 yX11_trackOf wsX11_trackOf) := goodIn_app (goodIn_of _ (by decide +kernel)) ggX11_meanSpeedWithScale_X11_trackOf
set_option maxRecDepth 20000 in
theorem ggX11_meanSpeedWithScale_X10_averageSpeed : GoodIn wsX11_meanSpeedWithScale wsX10_averageSpeed := goodIn_r _ [199, 120, 200, 201, 202, 118, 203, 165, 43, 44, 45, 204, 205, 206, 207, 137, 138, 208, 209, 210, 211, 212, 6, 213, 214, 215, 216, 217, 218, 134, 166, 167, 168, 169, 219, 220, 243, 244, 245, 246, 247, 248, 249, 250, 251, 252] (by decide +kernel) (by decide +kernel)
set_option maxRecDepth 20000 in
theorem gX11_meanSpeedWithScale_X10_averageSpeed : GoodIn wsX11_meanSpeedWithScale (wsV RX11 264 RX10 yX10_averageSpeed wsX10_averageSpeed) := goodIn_app (goodIn_of _ (by decide +kernel)) ggX11_meanSpeedWithScale_X10_averageSpeed
theorem dX11_meanSpeedWithScale_0 : decode cX11_meanSpeedWithScale 0 = .ok (.aload_n 0, 1) := by decide +kernel
theorem dX11_meanSpeedWithScale_1 : decode cX11_meanSpeedWithScale 1 = .ok (.iload_n 1, 1) := by decide +kernel
theorem dX11_meanSpeedWithScale_2 : decode cX11_meanSpeedWithScale 2 = .ok (.invokevirtual 216, 3) := by decide +kernel
theorem dX11_meanSpeedWithScale_5 : decode cX11_meanSpeedWithScale 5 = .ok (.iload_n 2, 1) := by decide +kernel
theorem dX11_meanSpeedWithScale_6 : decode cX11_meanSpeedWithScale 6 = .ok (.getstatic 121, 3) := by decide +kernel
theorem dX11_meanSpeedWithScale_9 : decode cX11_meanSpeedWithScale 9 = .ok (.iconst 5, 1) := by decide +kernel
theorem dX11_meanSpeedWithScale_10 : decode cX11_meanSpeedWithScale 10 = .ok (.iaload, 1) := by decide +kernel
theorem dX11_meanSpeedWithScale_11 : decode cX11_meanSpeedWithScale 11 = .ok (.getstatic 124, 3) := by decide +kernel
theorem dX11_meanSpeedWithScale_14 : decode cX11_meanSpeedWithScale 14 = .ok (.iconst 5, 1) := by decide +kernel
theorem dX11_meanSpeedWithScale_15 : decode cX11_meanSpeedWithScale 15 = .ok (.iaload, 1) := by decide +kernel
theorem dX11_meanSpeedWithScale_16 : decode cX11_meanSpeedWithScale 16 = .ok (.invokestatic 127, 3) := by decide +kernel
theorem dX11_meanSpeedWithScale_19 : decode cX11_meanSpeedWithScale 19 = .ok (.ifCond .ne 6, 3) := by decide +kernel
theorem dX11_meanSpeedWithScale_22 : decode cX11_meanSpeedWithScale 22 = .ok (.bipush (-2), 2) := by decide +kernel
theorem dX11_meanSpeedWithScale_24 : decode cX11_meanSpeedWithScale 24 = .ok (.ireturn, 1) := by decide +kernel
theorem dX11_meanSpeedWithScale_25 : decode cX11_meanSpeedWithScale 25 = .ok (.aload_n 0, 1) := by decide +kernel
theorem dX11_meanSpeedWithScale_26 : decode cX11_meanSpeedWithScale 26 = .ok (.iload_n 1, 1) := by decide +kernel
theorem dX11_meanSpeedWithScale_27 : decode cX11_meanSpeedWithScale 27 = .ok (.invokevirtual 219, 3) := by decide +kernel
theorem dX11_meanSpeedWithScale_30 : decode cX11_meanSpeedWithScale 30 = .ok (.iload_n 2, 1) := by decide +kernel
theorem dX11_meanSpeedWithScale_31 : decode cX11_meanSpeedWithScale 31 = .ok (.invokevirtual 264, 3) := by decide +kernel
theorem dX11_meanSpeedWithScale_34 : decode cX11_meanSpeedWithScale 34 = .ok (.ireturn, 1) := by decide +kernel
set_option maxRecDepth 20000 in
theorem ggX11_fastestFeature_X11_trackOf : GoodIn wsX11_fastestFeature wsX11_trackOf := goodIn_r _ [9, 10, 11, 12, 1, 13, 4, 14, 15, 16, 8, 17, 18, 19, 20, 21, 22, 23, 24, 25, 26, 27, 28, 29, 30, 31, 32, 33, 34, 35, 36, 37, 38, 39, 40, 41, 42, 43, 44, 45, 46, 47, 48, 49, 50, 51, 52, 53, 54, 55, 56, 57, 58, 59, 60, 61, 62, 63, 64, 65, 66, 67, 68, 69, 70, 71, 72, 73, 74, 75, 76, 77, 78, 79, 80, 81, 82, 83, 84, 85, 86, 87, 88, 89, 90, 91, 92, 93, 94, 95, 96, 97, 98, 99, 100, 101, 102, 103, 104, 105, 106, 107, 108, 109, 110, 111, 112, 113, 114, 115, 116, 117, 118, 119, 120, 121, 122, 123, 124, 125, 126, 127, 128, 129, 130, 131, 132, 133, 134, 135, 136, 137, 138, 139, 140, 141, 142, 143, 144, 145, 146, 147, 148, 149, 150, 151, 152, 153, 154, 155, 156, 157, 158, 159, 160, 161, 162, 163, 164, 165, 166, 167, 168, 169, 170, 171, 172, 173, 174, 175, 176, 177, 178, 179, 180, 181, 182, 183, 184, 211, 212, 213, 214, 215, 216, 217, 218, 219, 233, 234, 235, 236, 237, 238, 239, 240, 241, 242, 220, 221, 222, 223, 224, 225, 226, 227, 228, 243, 244, 245, 246, 247, 248, 249, 250, 229, 230, 231, 232, 251, 252, 253, 254, 255, 256] (by decide +kernel) (by decide +kernel)
set_option maxRecDepth 20000 in
theorem gX11_fastestFeature_X11_trackOf : GoodIn wsX11_fastestFeature (wsV RX11 219 RX11 yX11_trackOf wsX11_trackOf) := goodIn_app (goodIn_of _ (by decide +kernel)) ggX11_fastestFeature_X11_trackOf
set_option maxRecDepth 20000 in
theorem ggX11_fastestFeature_X10_averageSpeed : GoodIn wsX11_fastestFeature wsX10_averageSpeed := goodIn_r _ [188, 104, 189, 190, 191, 102, 192, 154, 27, 28, 29, 193, 194, 195, 196, 126, 127, 197, 198, 199, 200, 201, 8, 202, 203, 204, 205, 206, 207, 123, 155, 156, 157, 158, 208, 209, 233, 234, 235, 236, 237, 238, 239, 240, 241, 242] (by decide +kernel) (by decide +kernel)
set_option maxRecDepth 20000 in
theorem gX11_fastestFeature_X10_averageSpeed : GoodIn wsX11_fastestFeature (wsV RX11 264 RX10 yX10_averageSpeed wsX10_averageSpeed) := goodIn_app (goodIn_of _ (by decide +kernel)) ggX11_fastestFeature_X10_averageSpeed
set_option maxRecDepth 20000 in
theorem ggX11_fastestFeature_X10_segments : GoodIn wsX11_fastestFeature wsX10_segments := goodIn_r _ [192, 104, 154, 27, 28, 29, 233, 234, 235, 236, 237, 238, 239, 240, 241, 242] (by decide +kernel) (by decide +kernel)
set_option maxRecDepth 20000 in
theorem gX11_fastestFeature_X10_segments : GoodIn wsX11_fastestFeature (wsV RX11 254 RX10 yX10_segments wsX10_segments) := goodIn_app (goodIn_of _ (by decide +kernel)) ggX11_fastestFeature_X10_segments
theorem dX11_fastestFeature_0 : decode cX11_fastestFeature 0 = .ok (.iconst (-1), 1) := by decide +kernel
theorem dX11_fastestFeature_1 : decode cX11_fastestFeature 1 = .ok (.istore_n 1, 1) := by decide +kernel
theorem dX11_fastestFeature_2 : decode cX11_fastestFeature 2 = .ok (.iconst 0, 1) := by decide +kernel
theorem dX11_fastestFeature_3 : decode cX11_fastestFeature 3 = .ok (.istore_n 2, 1) := by decide +kernel
theorem dX11_fastestFeature_4 : decode cX11_fastestFeature 4 = .ok (.iconst 0, 1) := by decide +kernel
theorem dX11_fastestFeature_5 : decode cX11_fastestFeature 5 = .ok (.istore_n 3, 1) := by decide +kernel
theorem dX11_fastestFeature_6 : decode cX11_fastestFeature 6 = .ok (.iload_n 3, 1) := by decide +kernel
theorem dX11_fastestFeature_7 : decode cX11_fastestFeature 7 = .ok (.aload_n 0, 1) := by decide +kernel
theorem dX11_fastestFeature_8 : decode cX11_fastestFeature 8 = .ok (.getfield 10, 3) := by decide +kernel
theorem dX11_fastestFeature_11 : decode cX11_fastestFeature 11 = .ok (.getfield 107, 3) := by decide +kernel
theorem dX11_fastestFeature_14 : decode cX11_fastestFeature 14 = .ok (.getfield 102, 3) := by decide +kernel
theorem dX11_fastestFeature_17 : decode cX11_fastestFeature 17 = .ok (.if_icmp .ge 56, 3) := by decide +kernel
theorem dX11_fastestFeature_20 : decode cX11_fastestFeature 20 = .ok (.aload_n 0, 1) := by decide +kernel
theorem dX11_fastestFeature_21 : decode cX11_fastestFeature 21 = .ok (.iload_n 3, 1) := by decide +kernel
theorem dX11_fastestFeature_22 : decode cX11_fastestFeature 22 = .ok (.invokevirtual 219, 3) := by decide +kernel
theorem dX11_fastestFeature_25 : decode cX11_fastestFeature 25 = .ok (.astore 4, 2) := by decide +kernel
theorem dX11_fastestFeature_27 : decode cX11_fastestFeature 27 = .ok (.aload 4, 2) := by decide +kernel
theorem dX11_fastestFeature_29 : decode cX11_fastestFeature 29 = .ok (.aload_n 0, 1) := by decide +kernel
theorem dX11_fastestFeature_30 : decode cX11_fastestFeature 30 = .ok (.getfield 10, 3) := by decide +kernel
theorem dX11_fastestFeature_33 : decode cX11_fastestFeature 33 = .ok (.getfield 117, 3) := by decide +kernel
theorem dX11_fastestFeature_36 : decode cX11_fastestFeature 36 = .ok (.iconst 5, 1) := by decide +kernel
theorem dX11_fastestFeature_37 : decode cX11_fastestFeature 37 = .ok (.iaload, 1) := by decide +kernel
theorem dX11_fastestFeature_38 : decode cX11_fastestFeature 38 = .ok (.invokevirtual 264, 3) := by decide +kernel
theorem dX11_fastestFeature_41 : decode cX11_fastestFeature 41 = .ok (.istore 5, 2) := by decide +kernel
theorem dX11_fastestFeature_43 : decode cX11_fastestFeature 43 = .ok (.aload 4, 2) := by decide +kernel
theorem dX11_fastestFeature_45 : decode cX11_fastestFeature 45 = .ok (.invokevirtual 254, 3) := by decide +kernel
theorem dX11_fastestFeature_48 : decode cX11_fastestFeature 48 = .ok (.ifCond .le 19, 3) := by decide +kernel
theorem dX11_fastestFeature_51 : decode cX11_fastestFeature 51 = .ok (.iload_n 1, 1) := by decide +kernel
theorem dX11_fastestFeature_52 : decode cX11_fastestFeature 52 = .ok (.iconst (-1), 1) := by decide +kernel
theorem dX11_fastestFeature_53 : decode cX11_fastestFeature 53 = .ok (.if_icmp .eq 9, 3) := by decide +kernel
theorem dX11_fastestFeature_56 : decode cX11_fastestFeature 56 = .ok (.iload 5, 2) := by decide +kernel
theorem dX11_fastestFeature_58 : decode cX11_fastestFeature 58 = .ok (.iload_n 2, 1) := by decide +kernel
theorem dX11_fastestFeature_59 : decode cX11_fastestFeature 59 = .ok (.if_icmp .le 8, 3) := by decide +kernel
theorem dX11_fastestFeature_62 : decode cX11_fastestFeature 62 = .ok (.iload_n 3, 1) := by decide +kernel
theorem dX11_fastestFeature_63 : decode cX11_fastestFeature 63 = .ok (.istore_n 1, 1) := by decide +kernel
theorem dX11_fastestFeature_64 : decode cX11_fastestFeature 64 = .ok (.iload 5, 2) := by decide +kernel
theorem dX11_fastestFeature_66 : decode cX11_fastestFeature 66 = .ok (.istore_n 2, 1) := by decide +kernel
theorem dX11_fastestFeature_67 : decode cX11_fastestFeature 67 = .ok (.iinc 3 1, 3) := by decide +kernel
theorem dX11_fastestFeature_70 : decode cX11_fastestFeature 70 = .ok (.goto (-64), 3) := by decide +kernel
theorem dX11_fastestFeature_73 : decode cX11_fastestFeature 73 = .ok (.iload_n 1, 1) := by decide +kernel
theorem dX11_fastestFeature_74 : decode cX11_fastestFeature 74 = .ok (.ireturn, 1) := by decide +kernel
set_option maxRecDepth 20000 in
theorem ggX11_surgeCount_X11_requireFeature : GoodIn wsX11_surgeCount wsX11_requireFeature := goodIn_ca (goodIn_r _ [7, 8, 9, 1, 10, 11, 12, 13, 14, 15, 16, 228, 229, 230, 231, 232, 233, 234, 235, 236, 237, 238, 239, 240, 241, 242, 243, 244, 245, 246, 247, 248, 249] (by decide +kernel) (by decide +kernel)) (goodIn_sub (fun _ h => List.mem_cons_of_mem _ (List.mem_append_right _ h)) (by decide +kernel))
set_option maxRecDepth 20000 in
theorem gX11_surgeCount_X11_requireFeature : GoodIn wsX11_surgeCount (wsV RX11 216 RX11 yX11_requireFeature wsX11_requireFeature) := goodIn_app (goodIn_of _ (by decide +kernel)) ggX11_surgeCount_X11_requireFeature
set_option maxRecDepth 20000 in
theorem ggX11_surgeCount_X11_trackOf : GoodIn wsX11_surgeCount wsX11_trackOf := goodIn_r _ [20, 21, 22, 23, 1, 24, 2, 25, 26, 27, 6, 28, 29, 30, 31, 32, 33, 34, 35, 36, 37, 38, 39, 40, 41, 42, 43, 44, 45, 46, 47, 48, 49, 50, 51, 52, 53, 54, 55, 56, 57, 58, 59, 60, 61, 62, 63, 64, 65, 66, 67, 68, 69, 70, 71, 72, 73, 74, 75, 76, 77, 78, 79, 80, 81, 82, 83, 84, 85, 86, 87, 88, 89, 90, 91, 92, 93, 94, 95, 96, 97, 98, 99, 100, 101, 102, 103, 104, 105, 106, 107, 108, 109, 110, 111, 112, 113, 114, 115, 116, 117, 118, 119, 120, 121, 122, 123, 12, 13, 14, 15, 16, 124, 125, 126, 127, 128, 129, 130, 131, 132, 133, 134, 135, 136, 137, 138, 139, 140, 141, 142, 143, 144, 145, 146, 147, 148, 149, 150, 151, 152, 153, 154, 155, 156, 157, 158, 159, 160, 161, 162, 163, 164, 165, 166, 167, 168, 169, 170, 171, 172, 173, 174, 175, 176, 177, 178, 179, 180, 181, 182, 183, 184, 185, 186, 187, 188, 189, 190, 228, 229, 230, 231, 232, 233, 234, 235, 236, 250, 251, 252, 253, 254, 255, 256, 257, 258, 259, 237, 238, 239, 240, 241, 242, 243, 244, 245, 260, 261, 262, 263, 264, 265, 266, 267, 246, 247, 248, 249, 268, 269, 270, 271, 272, 273] (by decide +kernel) (by decide +kernel)
set_option maxRecDepth 20000 in
theorem gX11_surgeCount_X11_trackOf : GoodIn wsX11_surgeCount (wsV RX11 219 RX11 yX11_trackOf wsX11_trackOf) := goodIn_app (goodIn_of _ (by decide +kernel)) ggX11_surgeCount_X11_trackOf
set_option maxRecDepth 20000 in
theorem ggX11_surgeCount_X10_surges : GoodIn wsX11_surgeCount wsX10_surges := goodIn_r _ [194, 195, 196, 197, 113, 198, 115, 160, 38, 39, 40, 199, 200, 201, 202, 203, 204, 205, 206, 207, 208, 209, 210, 211, 212, 213, 214, 215, 216, 217, 218, 132, 133, 219, 6, 220, 221, 222, 223, 224, 225, 129, 161, 162, 163, 164, 226, 227, 250, 251, 252, 253, 254, 255, 256, 257, 258, 259] (by decide +kernel) (by decide +kernel)
set_option maxRecDepth 20000 in
theorem gX11_surgeCount_X10_surges : GoodIn wsX11_surgeCount (wsV RX11 267 RX10 yX10_surges wsX10_surges) := goodIn_app (goodIn_of _ (by decide +kernel)) ggX11_surgeCount_X10_surges
theorem dX11_surgeCount_0 : decode cX11_surgeCount 0 = .ok (.aload_n 0, 1) := by decide +kernel
theorem dX11_surgeCount_1 : decode cX11_surgeCount 1 = .ok (.iload_n 1, 1) := by decide +kernel
theorem dX11_surgeCount_2 : decode cX11_surgeCount 2 = .ok (.invokevirtual 216, 3) := by decide +kernel
theorem dX11_surgeCount_5 : decode cX11_surgeCount 5 = .ok (.aload_n 0, 1) := by decide +kernel
theorem dX11_surgeCount_6 : decode cX11_surgeCount 6 = .ok (.iload_n 1, 1) := by decide +kernel
theorem dX11_surgeCount_7 : decode cX11_surgeCount 7 = .ok (.invokevirtual 219, 3) := by decide +kernel
theorem dX11_surgeCount_10 : decode cX11_surgeCount 10 = .ok (.aload_n 0, 1) := by decide +kernel
theorem dX11_surgeCount_11 : decode cX11_surgeCount 11 = .ok (.getfield 10, 3) := by decide +kernel
theorem dX11_surgeCount_14 : decode cX11_surgeCount 14 = .ok (.getfield 117, 3) := by decide +kernel
theorem dX11_surgeCount_17 : decode cX11_surgeCount 17 = .ok (.iconst 5, 1) := by decide +kernel
theorem dX11_surgeCount_18 : decode cX11_surgeCount 18 = .ok (.iaload, 1) := by decide +kernel
theorem dX11_surgeCount_19 : decode cX11_surgeCount 19 = .ok (.aload_n 0, 1) := by decide +kernel
theorem dX11_surgeCount_20 : decode cX11_surgeCount 20 = .ok (.getfield 10, 3) := by decide +kernel
theorem dX11_surgeCount_23 : decode cX11_surgeCount 23 = .ok (.getfield 117, 3) := by decide +kernel
theorem dX11_surgeCount_26 : decode cX11_surgeCount 26 = .ok (.bipush 7, 2) := by decide +kernel
theorem dX11_surgeCount_28 : decode cX11_surgeCount 28 = .ok (.iaload, 1) := by decide +kernel
theorem dX11_surgeCount_29 : decode cX11_surgeCount 29 = .ok (.invokevirtual 267, 3) := by decide +kernel
theorem dX11_surgeCount_32 : decode cX11_surgeCount 32 = .ok (.ireturn, 1) := by decide +kernel
set_option maxRecDepth 20000 in
theorem ggX11_surgeStart_X11_requireFeature : GoodIn wsX11_surgeStart wsX11_requireFeature := goodIn_ca (goodIn_r _ [7, 8, 9, 1, 10, 11, 12, 13, 14, 15, 16, 229, 230, 231, 232, 233, 234, 235, 236, 237, 238, 239, 240, 241, 242, 243, 244, 245, 246, 247, 248, 249, 250] (by decide +kernel) (by decide +kernel)) (goodIn_sub (fun _ h => List.mem_cons_of_mem _ (List.mem_append_right _ h)) (by decide +kernel))
set_option maxRecDepth 20000 in
theorem gX11_surgeStart_X11_requireFeature : GoodIn wsX11_surgeStart (wsV RX11 216 RX11 yX11_requireFeature wsX11_requireFeature) := goodIn_app (goodIn_of _ (by decide +kernel)) ggX11_surgeStart_X11_requireFeature
set_option maxRecDepth 20000 in
theorem ggX11_surgeStart_X11_trackOf : GoodIn wsX11_surgeStart wsX11_trackOf := goodIn_r _ [20, 21, 22, 23, 1, 24, 2, 25, 26, 27, 6, 28, 29, 30, 31, 32, 33, 34, 35, 36, 37, 38, 39, 40, 41, 42, 43, 44, 45, 46, 47, 48, 49, 50, 51, 52, 53, 54, 55, 56, 57, 58, 59, 60, 61, 62, 63, 64, 65, 66, 67, 68, 69, 70, 71, 72, 73, 74, 75, 76, 77, 78, 79, 80, 81, 82, 83, 84, 85, 86, 87, 88, 89, 90, 91, 92, 93, 94, 95, 96, 97, 98, 99, 100, 101, 102, 103, 104, 105, 106, 107, 108, 109, 110, 111, 112, 113, 114, 115, 116, 117, 118, 119, 120, 121, 122, 123, 12, 13, 14, 15, 16, 124, 125, 126, 127, 128, 129, 130, 131, 132, 133, 134, 135, 136, 137, 138, 139, 140, 141, 142, 143, 144, 145, 146, 147, 148, 149, 150, 151, 152, 153, 154, 155, 156, 157, 158, 159, 160, 161, 162, 163, 164, 165, 166, 167, 168, 169, 170, 171, 172, 173, 174, 175, 176, 177, 178, 179, 180, 181, 182, 183, 184, 185, 186, 187, 188, 189, 190, 229, 230, 231, 232, 233, 234, 235, 236, 237, 251, 252, 253, 254, 255, 256, 257, 258, 259, 260, 238, 239, 240, 241, 242, 243, 244, 245, 246, 261, 262, 263, 264, 265, 266, 267, 268, 247, 248, 249, 250, 269, 270, 271, 272, 273, 274] (by decide +kernel) (by decide +kernel)
set_option maxRecDepth 20000 in
theorem gX11_surgeStart_X11_trackOf : GoodIn wsX11_surgeStart (wsV RX11 219 RX11 yX11_trackOf wsX11_trackOf) := goodIn_app (goodIn_of _ (by decide +kernel)) ggX11_surgeStart_X11_trackOf
set_option maxRecDepth 20000 in
theorem ggX11_surgeStart_X10_surgeBegin : GoodIn wsX11_surgeStart wsX10_surgeBegin := goodIn_r _ [194, 195, 196, 197, 113, 198, 115, 160, 38, 39, 40, 199, 200, 201, 202, 203, 204, 205, 206, 207, 208, 209, 210, 211, 212, 213, 214, 215, 216, 217, 218, 132, 133, 219, 6, 220, 221, 222, 223, 224, 225, 129, 161, 162, 163, 164, 226, 227, 251, 252, 253, 254, 255, 256, 257, 258, 259, 260] (by decide +kernel) (by decide +kernel)
set_option maxRecDepth 20000 in
theorem gX11_surgeStart_X10_surgeBegin : GoodIn wsX11_surgeStart (wsV RX11 270 RX10 yX10_surgeBegin wsX10_surgeBegin) := goodIn_app (goodIn_of _ (by decide +kernel)) ggX11_surgeStart_X10_surgeBegin
set_option maxRecDepth 20000 in
theorem ggX11_surgeStart_X10_dayOf : GoodIn wsX11_surgeStart wsX10_dayOf := goodIn_r _ [225, 129, 161, 162, 163, 113, 164, 115, 251, 252, 253, 254, 255, 256, 257, 258, 259, 260] (by decide +kernel) (by decide +kernel)
set_option maxRecDepth 20000 in
theorem gX11_surgeStart_X10_dayOf : GoodIn wsX11_surgeStart (wsV RX11 273 RX10 yX10_dayOf wsX10_dayOf) := goodIn_app (goodIn_of _ (by decide +kernel)) ggX11_surgeStart_X10_dayOf
theorem dX11_surgeStart_0 : decode cX11_surgeStart 0 = .ok (.aload_n 0, 1) := by decide +kernel
theorem dX11_surgeStart_1 : decode cX11_surgeStart 1 = .ok (.iload_n 1, 1) := by decide +kernel
theorem dX11_surgeStart_2 : decode cX11_surgeStart 2 = .ok (.invokevirtual 216, 3) := by decide +kernel
theorem dX11_surgeStart_5 : decode cX11_surgeStart 5 = .ok (.aload_n 0, 1) := by decide +kernel
theorem dX11_surgeStart_6 : decode cX11_surgeStart 6 = .ok (.iload_n 1, 1) := by decide +kernel
theorem dX11_surgeStart_7 : decode cX11_surgeStart 7 = .ok (.invokevirtual 219, 3) := by decide +kernel
theorem dX11_surgeStart_10 : decode cX11_surgeStart 10 = .ok (.astore_n 3, 1) := by decide +kernel
theorem dX11_surgeStart_11 : decode cX11_surgeStart 11 = .ok (.aload_n 3, 1) := by decide +kernel
theorem dX11_surgeStart_12 : decode cX11_surgeStart 12 = .ok (.iload_n 2, 1) := by decide +kernel
theorem dX11_surgeStart_13 : decode cX11_surgeStart 13 = .ok (.aload_n 0, 1) := by decide +kernel
theorem dX11_surgeStart_14 : decode cX11_surgeStart 14 = .ok (.getfield 10, 3) := by decide +kernel
theorem dX11_surgeStart_17 : decode cX11_surgeStart 17 = .ok (.getfield 117, 3) := by decide +kernel
theorem dX11_surgeStart_20 : decode cX11_surgeStart 20 = .ok (.iconst 5, 1) := by decide +kernel
theorem dX11_surgeStart_21 : decode cX11_surgeStart 21 = .ok (.iaload, 1) := by decide +kernel
theorem dX11_surgeStart_22 : decode cX11_surgeStart 22 = .ok (.aload_n 0, 1) := by decide +kernel
theorem dX11_surgeStart_23 : decode cX11_surgeStart 23 = .ok (.getfield 10, 3) := by decide +kernel
theorem dX11_surgeStart_26 : decode cX11_surgeStart 26 = .ok (.getfield 117, 3) := by decide +kernel
theorem dX11_surgeStart_29 : decode cX11_surgeStart 29 = .ok (.bipush 7, 2) := by decide +kernel
theorem dX11_surgeStart_31 : decode cX11_surgeStart 31 = .ok (.iaload, 1) := by decide +kernel
theorem dX11_surgeStart_32 : decode cX11_surgeStart 32 = .ok (.invokevirtual 270, 3) := by decide +kernel
theorem dX11_surgeStart_35 : decode cX11_surgeStart 35 = .ok (.istore 4, 2) := by decide +kernel
theorem dX11_surgeStart_37 : decode cX11_surgeStart 37 = .ok (.iload 4, 2) := by decide +kernel
theorem dX11_surgeStart_39 : decode cX11_surgeStart 39 = .ok (.iconst (-1), 1) := by decide +kernel
theorem dX11_surgeStart_40 : decode cX11_surgeStart 40 = .ok (.if_icmp .ne 7, 3) := by decide +kernel
theorem dX11_surgeStart_43 : decode cX11_surgeStart 43 = .ok (.iconst (-1), 1) := by decide +kernel
theorem dX11_surgeStart_44 : decode cX11_surgeStart 44 = .ok (.goto 9, 3) := by decide +kernel
theorem dX11_surgeStart_47 : decode cX11_surgeStart 47 = .ok (.aload_n 3, 1) := by decide +kernel
theorem dX11_surgeStart_48 : decode cX11_surgeStart 48 = .ok (.iload 4, 2) := by decide +kernel
theorem dX11_surgeStart_50 : decode cX11_surgeStart 50 = .ok (.invokevirtual 273, 3) := by decide +kernel
theorem dX11_surgeStart_53 : decode cX11_surgeStart 53 = .ok (.ireturn, 1) := by decide +kernel
set_option maxRecDepth 20000 in
theorem ggX11_surgeDays_X11_requireFeature : GoodIn wsX11_surgeDays wsX11_requireFeature := goodIn_ca (goodIn_r _ [7, 8, 9, 1, 10, 11, 12, 13, 14, 15, 16, 233, 234, 235, 236, 237, 238, 239, 240, 241, 242, 243, 244, 245, 246, 247, 248, 249, 250, 251, 252, 253, 254] (by decide +kernel) (by decide +kernel)) (goodIn_sub (fun _ h => List.mem_cons_of_mem _ (List.mem_append_right _ h)) (by decide +kernel))
set_option maxRecDepth 20000 in
theorem gX11_surgeDays_X11_requireFeature : GoodIn wsX11_surgeDays (wsV RX11 216 RX11 yX11_requireFeature wsX11_requireFeature) := goodIn_app (goodIn_of _ (by decide +kernel)) ggX11_surgeDays_X11_requireFeature
set_option maxRecDepth 20000 in
theorem ggX11_surgeDays_X11_trackOf : GoodIn wsX11_surgeDays wsX11_trackOf := goodIn_r _ [20, 21, 22, 23, 1, 24, 2, 25, 26, 27, 6, 28, 29, 30, 31, 32, 33, 34, 35, 36, 37, 38, 39, 40, 41, 42, 43, 44, 45, 46, 47, 48, 49, 50, 51, 52, 53, 54, 55, 56, 57, 58, 59, 60, 61, 62, 63, 64, 65, 66, 67, 68, 69, 70, 71, 72, 73, 74, 75, 76, 77, 78, 79, 80, 81, 82, 83, 84, 85, 86, 87, 88, 89, 90, 91, 92, 93, 94, 95, 96, 97, 98, 99, 100, 101, 102, 103, 104, 105, 106, 107, 108, 109, 110, 111, 112, 113, 114, 115, 116, 117, 118, 119, 120, 121, 122, 123, 12, 13, 14, 15, 16, 124, 125, 126, 127, 128, 129, 130, 131, 132, 133, 134, 135, 136, 137, 138, 139, 140, 141, 142, 143, 144, 145, 146, 147, 148, 149, 150, 151, 152, 153, 154, 155, 156, 157, 158, 159, 160, 161, 162, 163, 164, 165, 166, 167, 168, 169, 170, 171, 172, 173, 174, 175, 176, 177, 178, 179, 180, 181, 182, 183, 184, 185, 186, 187, 188, 189, 190, 233, 234, 235, 236, 237, 238, 239, 240, 241, 255, 256, 257, 258, 259, 260, 261, 262, 263, 264, 242, 243, 244, 245, 246, 247, 248, 249, 250, 265, 266, 267, 268, 269, 270, 271, 272, 251, 252, 253, 254, 273, 274, 275, 276, 277, 278] (by decide +kernel) (by decide +kernel)
set_option maxRecDepth 20000 in
theorem gX11_surgeDays_X11_trackOf : GoodIn wsX11_surgeDays (wsV RX11 219 RX11 yX11_trackOf wsX11_trackOf) := goodIn_app (goodIn_of _ (by decide +kernel)) ggX11_surgeDays_X11_trackOf
set_option maxRecDepth 20000 in
theorem ggX11_surgeDays_X10_surgeBegin : GoodIn wsX11_surgeDays wsX10_surgeBegin := goodIn_r _ [194, 195, 196, 197, 113, 198, 115, 160, 38, 39, 40, 199, 200, 201, 202, 203, 204, 205, 206, 207, 208, 209, 210, 211, 212, 213, 214, 215, 216, 217, 218, 132, 133, 219, 6, 220, 221, 222, 223, 224, 225, 129, 161, 162, 163, 164, 226, 227, 255, 256, 257, 258, 259, 260, 261, 262, 263, 264] (by decide +kernel) (by decide +kernel)
set_option maxRecDepth 20000 in
theorem gX11_surgeDays_X10_surgeBegin : GoodIn wsX11_surgeDays (wsV RX11 270 RX10 yX10_surgeBegin wsX10_surgeBegin) := goodIn_app (goodIn_of _ (by decide +kernel)) ggX11_surgeDays_X10_surgeBegin
set_option maxRecDepth 20000 in
theorem ggX11_surgeDays_X10_surgeEnd : GoodIn wsX11_surgeDays wsX10_surgeEnd := goodIn_r _ [231, 195, 196, 197, 113, 198, 115, 160, 38, 39, 40, 203, 204, 205, 206, 207, 208, 209, 210, 211, 212, 213, 214, 215, 216, 217, 218, 132, 133, 219, 6, 220, 221, 222, 223, 224, 225, 129, 161, 162, 163, 164, 226, 227, 255, 256, 257, 258, 259, 260, 261, 262, 263, 264] (by decide +kernel) (by decide +kernel)
set_option maxRecDepth 20000 in
theorem gX11_surgeDays_X10_surgeEnd : GoodIn wsX11_surgeDays (wsV RX11 274 RX10 yX10_surgeEnd wsX10_surgeEnd) := goodIn_app (goodIn_of _ (by decide +kernel)) ggX11_surgeDays_X10_surgeEnd
set_option maxRecDepth 20000 in
theorem ggX11_surgeDays_X10_dayOf : GoodIn wsX11_surgeDays wsX10_dayOf := goodIn_r _ [225, 129, 161, 162, 163, 113, 164, 115, 255, 256, 257, 258, 259, 260, 261, 262, 263, 264] (by decide +kernel) (by decide +kernel)
set_option maxRecDepth 20000 in
theorem gX11_surgeDays_X10_dayOf : GoodIn wsX11_surgeDays (wsV RX11 273 RX10 yX10_dayOf wsX10_dayOf) := goodIn_app (goodIn_of _ (by decide +kernel)) ggX11_surgeDays_X10_dayOf
theorem dX11_surgeDays_0 : decode cX11_surgeDays 0 = .ok (.aload_n 0, 1) := by decide +kernel
theorem dX11_surgeDays_1 : decode cX11_surgeDays 1 = .ok (.iload_n 1, 1) := by decide +kernel
theorem dX11_surgeDays_2 : decode cX11_surgeDays 2 = .ok (.invokevirtual 216, 3) := by decide +kernel
theorem dX11_surgeDays_5 : decode cX11_surgeDays 5 = .ok (.aload_n 0, 1) := by decide +kernel
theorem dX11_surgeDays_6 : decode cX11_surgeDays 6 = .ok (.iload_n 1, 1) := by decide +kernel
theorem dX11_surgeDays_7 : decode cX11_surgeDays 7 = .ok (.invokevirtual 219, 3) := by decide +kernel
theorem dX11_surgeDays_10 : decode cX11_surgeDays 10 = .ok (.astore_n 3, 1) := by decide +kernel
theorem dX11_surgeDays_11 : decode cX11_surgeDays 11 = .ok (.aload_n 3, 1) := by decide +kernel
theorem dX11_surgeDays_12 : decode cX11_surgeDays 12 = .ok (.iload_n 2, 1) := by decide +kernel
theorem dX11_surgeDays_13 : decode cX11_surgeDays 13 = .ok (.aload_n 0, 1) := by decide +kernel
theorem dX11_surgeDays_14 : decode cX11_surgeDays 14 = .ok (.getfield 10, 3) := by decide +kernel
theorem dX11_surgeDays_17 : decode cX11_surgeDays 17 = .ok (.getfield 117, 3) := by decide +kernel
theorem dX11_surgeDays_20 : decode cX11_surgeDays 20 = .ok (.iconst 5, 1) := by decide +kernel
theorem dX11_surgeDays_21 : decode cX11_surgeDays 21 = .ok (.iaload, 1) := by decide +kernel
theorem dX11_surgeDays_22 : decode cX11_surgeDays 22 = .ok (.aload_n 0, 1) := by decide +kernel
theorem dX11_surgeDays_23 : decode cX11_surgeDays 23 = .ok (.getfield 10, 3) := by decide +kernel
theorem dX11_surgeDays_26 : decode cX11_surgeDays 26 = .ok (.getfield 117, 3) := by decide +kernel
theorem dX11_surgeDays_29 : decode cX11_surgeDays 29 = .ok (.bipush 7, 2) := by decide +kernel
theorem dX11_surgeDays_31 : decode cX11_surgeDays 31 = .ok (.iaload, 1) := by decide +kernel
theorem dX11_surgeDays_32 : decode cX11_surgeDays 32 = .ok (.invokevirtual 270, 3) := by decide +kernel
theorem dX11_surgeDays_35 : decode cX11_surgeDays 35 = .ok (.istore 4, 2) := by decide +kernel
theorem dX11_surgeDays_37 : decode cX11_surgeDays 37 = .ok (.iload 4, 2) := by decide +kernel
theorem dX11_surgeDays_39 : decode cX11_surgeDays 39 = .ok (.iconst (-1), 1) := by decide +kernel
theorem dX11_surgeDays_40 : decode cX11_surgeDays 40 = .ok (.if_icmp .ne 5, 3) := by decide +kernel
theorem dX11_surgeDays_43 : decode cX11_surgeDays 43 = .ok (.iconst (-1), 1) := by decide +kernel
theorem dX11_surgeDays_44 : decode cX11_surgeDays 44 = .ok (.ireturn, 1) := by decide +kernel
theorem dX11_surgeDays_45 : decode cX11_surgeDays 45 = .ok (.aload_n 3, 1) := by decide +kernel
theorem dX11_surgeDays_46 : decode cX11_surgeDays 46 = .ok (.iload 4, 2) := by decide +kernel
theorem dX11_surgeDays_48 : decode cX11_surgeDays 48 = .ok (.aload_n 0, 1) := by decide +kernel
theorem dX11_surgeDays_49 : decode cX11_surgeDays 49 = .ok (.getfield 10, 3) := by decide +kernel
theorem dX11_surgeDays_52 : decode cX11_surgeDays 52 = .ok (.getfield 117, 3) := by decide +kernel
theorem dX11_surgeDays_55 : decode cX11_surgeDays 55 = .ok (.iconst 5, 1) := by decide +kernel
theorem dX11_surgeDays_56 : decode cX11_surgeDays 56 = .ok (.iaload, 1) := by decide +kernel
theorem dX11_surgeDays_57 : decode cX11_surgeDays 57 = .ok (.aload_n 0, 1) := by decide +kernel
theorem dX11_surgeDays_58 : decode cX11_surgeDays 58 = .ok (.getfield 10, 3) := by decide +kernel
theorem dX11_surgeDays_61 : decode cX11_surgeDays 61 = .ok (.getfield 117, 3) := by decide +kernel
theorem dX11_surgeDays_64 : decode cX11_surgeDays 64 = .ok (.bipush 7, 2) := by decide +kernel
theorem dX11_surgeDays_66 : decode cX11_surgeDays 66 = .ok (.iaload, 1) := by decide +kernel
theorem dX11_surgeDays_67 : decode cX11_surgeDays 67 = .ok (.invokevirtual 274, 3) := by decide +kernel
theorem dX11_surgeDays_70 : decode cX11_surgeDays 70 = .ok (.istore 5, 2) := by decide +kernel
theorem dX11_surgeDays_72 : decode cX11_surgeDays 72 = .ok (.aload_n 3, 1) := by decide +kernel
theorem dX11_surgeDays_73 : decode cX11_surgeDays 73 = .ok (.iload 5, 2) := by decide +kernel
theorem dX11_surgeDays_75 : decode cX11_surgeDays 75 = .ok (.invokevirtual 273, 3) := by decide +kernel
theorem dX11_surgeDays_78 : decode cX11_surgeDays 78 = .ok (.aload_n 3, 1) := by decide +kernel
theorem dX11_surgeDays_79 : decode cX11_surgeDays 79 = .ok (.iload 4, 2) := by decide +kernel
theorem dX11_surgeDays_81 : decode cX11_surgeDays 81 = .ok (.invokevirtual 273, 3) := by decide +kernel
theorem dX11_surgeDays_84 : decode cX11_surgeDays 84 = .ok (.isub, 1) := by decide +kernel
theorem dX11_surgeDays_85 : decode cX11_surgeDays 85 = .ok (.ireturn, 1) := by decide +kernel
set_option maxRecDepth 20000 in
theorem ggX11_positionX_X11_requireFeature : GoodIn wsX11_positionX wsX11_requireFeature := goodIn_ca (goodIn_r _ [6, 7, 8, 9, 10, 11, 12, 13, 14, 15, 16, 215, 216, 217, 218, 219, 220, 221, 222, 223, 224, 225, 226, 227, 228, 229, 230, 231, 232, 233, 234, 235, 236] (by decide +kernel) (by decide +kernel)) (goodIn_sub (fun _ h => List.mem_cons_of_mem _ (List.mem_append_right _ h)) (by decide +kernel))
set_option maxRecDepth 20000 in
theorem gX11_positionX_X11_requireFeature : GoodIn wsX11_positionX (wsV RX11 216 RX11 yX11_requireFeature wsX11_requireFeature) := goodIn_app (goodIn_of _ (by decide +kernel)) ggX11_positionX_X11_requireFeature
set_option maxRecDepth 20000 in
theorem ggX11_positionX_X11_trackOf : GoodIn wsX11_positionX wsX11_trackOf := goodIn_r _ [20, 21, 22, 23, 9, 24, 25, 26, 27, 28, 5, 29, 30, 31, 32, 33, 34, 35, 36, 37, 38, 39, 40, 41, 42, 43, 44, 45, 46, 47, 48, 49, 50, 51, 52, 53, 54, 55, 56, 57, 58, 59, 60, 61, 62, 63, 64, 65, 66, 67, 68, 69, 70, 71, 72, 73, 74, 75, 76, 77, 78, 79, 80, 81, 82, 83, 84, 85, 86, 87, 88, 89, 90, 91, 92, 93, 94, 95, 96, 97, 98, 99, 100, 101, 102, 103, 104, 105, 106, 107, 108, 109, 110, 111, 112, 113, 114, 115, 116, 117, 118, 119, 120, 121, 122, 123, 124, 12, 13, 14, 15, 16, 125, 126, 127, 128, 129, 130, 131, 132, 133, 134, 135, 136, 137, 138, 139, 140, 141, 142, 143, 144, 145, 146, 147, 148, 149, 150, 151, 152, 153, 154, 155, 156, 157, 158, 159, 160, 161, 162, 163, 164, 165, 166, 167, 168, 169, 170, 171, 172, 173, 174, 175, 176, 177, 178, 179, 180, 181, 182, 183, 184, 185, 186, 187, 188, 189, 190, 191, 215, 216, 217, 218, 219, 220, 221, 222, 223, 205, 206, 207, 208, 209, 210, 211, 212, 213, 214, 224, 225, 226, 227, 228, 229, 230, 231, 232, 237, 238, 239, 240, 241, 242, 243, 244, 233, 234, 235, 236, 245, 246, 247, 248, 249, 250] (by decide +kernel) (by decide +kernel)
set_option maxRecDepth 20000 in
theorem gX11_positionX_X11_trackOf : GoodIn wsX11_positionX (wsV RX11 219 RX11 yX11_trackOf wsX11_trackOf) := goodIn_app (goodIn_of _ (by decide +kernel)) ggX11_positionX_X11_trackOf
set_option maxRecDepth 20000 in
theorem ggX11_positionX_X10_interpolate : GoodIn wsX11_positionX wsX10_interpolate := goodIn_r _ [195, 116, 130, 196, 197, 198, 199, 114, 200, 201, 202, 203, 204, 205, 206, 207, 208, 209, 210, 211, 212, 213, 214] (by decide +kernel) (by decide +kernel)
set_option maxRecDepth 20000 in
theorem gX11_positionX_X10_interpolate : GoodIn wsX11_positionX (wsV RX11 280 RX10 yX10_interpolate wsX10_interpolate) := goodIn_app (goodIn_of _ (by decide +kernel)) ggX11_positionX_X10_interpolate
theorem dX11_positionX_0 : decode cX11_positionX 0 = .ok (.aload_n 0, 1) := by decide +kernel
theorem dX11_positionX_1 : decode cX11_positionX 1 = .ok (.iload_n 1, 1) := by decide +kernel
theorem dX11_positionX_2 : decode cX11_positionX 2 = .ok (.invokevirtual 216, 3) := by decide +kernel
theorem dX11_positionX_5 : decode cX11_positionX 5 = .ok (.aload_n 0, 1) := by decide +kernel
theorem dX11_positionX_6 : decode cX11_positionX 6 = .ok (.iload_n 1, 1) := by decide +kernel
theorem dX11_positionX_7 : decode cX11_positionX 7 = .ok (.invokevirtual 219, 3) := by decide +kernel
theorem dX11_positionX_10 : decode cX11_positionX 10 = .ok (.astore_n 3, 1) := by decide +kernel
theorem dX11_positionX_11 : decode cX11_positionX 11 = .ok (.aload_n 3, 1) := by decide +kernel
theorem dX11_positionX_12 : decode cX11_positionX 12 = .ok (.aload_n 3, 1) := by decide +kernel
theorem dX11_positionX_13 : decode cX11_positionX 13 = .ok (.getfield 277, 3) := by decide +kernel
theorem dX11_positionX_16 : decode cX11_positionX 16 = .ok (.iload_n 2, 1) := by decide +kernel
theorem dX11_positionX_17 : decode cX11_positionX 17 = .ok (.invokevirtual 280, 3) := by decide +kernel
theorem dX11_positionX_20 : decode cX11_positionX 20 = .ok (.ireturn, 1) := by decide +kernel
set_option maxRecDepth 20000 in
theorem ggX11_positionY_X11_requireFeature : GoodIn wsX11_positionY wsX11_requireFeature := goodIn_ca (goodIn_r _ [6, 7, 8, 9, 10, 11, 12, 13, 14, 15, 16, 215, 216, 217, 218, 219, 220, 221, 222, 223, 224, 225, 226, 227, 228, 229, 230, 231, 232, 233, 234, 235, 236] (by decide +kernel) (by decide +kernel)) (goodIn_sub (fun _ h => List.mem_cons_of_mem _ (List.mem_append_right _ h)) (by decide +kernel))
set_option maxRecDepth 20000 in
theorem gX11_positionY_X11_requireFeature : GoodIn wsX11_positionY (wsV RX11 216 RX11 yX11_requireFeature wsX11_requireFeature) := goodIn_app (goodIn_of _ (by decide +kernel)) ggX11_positionY_X11_requireFeature
set_option maxRecDepth 20000 in
theorem ggX11_positionY_X11_trackOf : GoodIn wsX11_positionY wsX11_trackOf := goodIn_r _ [20, 21, 22, 23, 9, 24, 25, 26, 27, 28, 5, 29, 30, 31, 32, 33, 34, 35, 36, 37, 38, 39, 40, 41, 42, 43, 44, 45, 46, 47, 48, 49, 50, 51, 52, 53, 54, 55, 56, 57, 58, 59, 60, 61, 62, 63, 64, 65, 66, 67, 68, 69, 70, 71, 72, 73, 74, 75, 76, 77, 78, 79, 80, 81, 82, 83, 84, 85, 86, 87, 88, 89, 90, 91, 92, 93, 94, 95, 96, 97, 98, 99, 100, 101, 102, 103, 104, 105, 106, 107, 108, 109, 110, 111, 112, 113, 114, 115, 116, 117, 118, 119, 120, 121, 122, 123, 124, 12, 13, 14, 15, 16, 125, 126, 127, 128, 129, 130, 131, 132, 133, 134, 135, 136, 137, 138, 139, 140, 141, 142, 143, 144, 145, 146, 147, 148, 149, 150, 151, 152, 153, 154, 155, 156, 157, 158, 159, 160, 161, 162, 163, 164, 165, 166, 167, 168, 169, 170, 171, 172, 173, 174, 175, 176, 177, 178, 179, 180, 181, 182, 183, 184, 185, 186, 187, 188, 189, 190, 191, 215, 216, 217, 218, 219, 220, 221, 222, 223, 205, 206, 207, 208, 209, 210, 211, 212, 213, 214, 224, 225, 226, 227, 228, 229, 230, 231, 232, 237, 238, 239, 240, 241, 242, 243, 244, 233, 234, 235, 236, 245, 246, 247, 248, 249, 250] (by decide +kernel) (by decide +kernel)
set_option maxRecDepth 20000 in
theorem gX11_positionY_X11_trackOf : GoodIn wsX11_positionY (wsV RX11 219 RX11 yX11_trackOf wsX11_trackOf) := goodIn_app (goodIn_of _ (by decide +kernel)) ggX11_positionY_X11_trackOf
set_option maxRecDepth 20000 in
theorem ggX11_positionY_X10_interpolate : GoodIn wsX11_positionY wsX10_interpolate := goodIn_r _ [195, 116, 130, 196, 197, 198, 199, 114, 200, 201, 202, 203, 204, 205, 206, 207, 208, 209, 210, 211, 212, 213, 214] (by decide +kernel) (by decide +kernel)
set_option maxRecDepth 20000 in
theorem gX11_positionY_X10_interpolate : GoodIn wsX11_positionY (wsV RX11 280 RX10 yX10_interpolate wsX10_interpolate) := goodIn_app (goodIn_of _ (by decide +kernel)) ggX11_positionY_X10_interpolate
theorem dX11_positionY_0 : decode cX11_positionY 0 = .ok (.aload_n 0, 1) := by decide +kernel
theorem dX11_positionY_1 : decode cX11_positionY 1 = .ok (.iload_n 1, 1) := by decide +kernel
theorem dX11_positionY_2 : decode cX11_positionY 2 = .ok (.invokevirtual 216, 3) := by decide +kernel
theorem dX11_positionY_5 : decode cX11_positionY 5 = .ok (.aload_n 0, 1) := by decide +kernel
theorem dX11_positionY_6 : decode cX11_positionY 6 = .ok (.iload_n 1, 1) := by decide +kernel
theorem dX11_positionY_7 : decode cX11_positionY 7 = .ok (.invokevirtual 219, 3) := by decide +kernel
theorem dX11_positionY_10 : decode cX11_positionY 10 = .ok (.astore_n 3, 1) := by decide +kernel
theorem dX11_positionY_11 : decode cX11_positionY 11 = .ok (.aload_n 3, 1) := by decide +kernel
theorem dX11_positionY_12 : decode cX11_positionY 12 = .ok (.aload_n 3, 1) := by decide +kernel
theorem dX11_positionY_13 : decode cX11_positionY 13 = .ok (.getfield 284, 3) := by decide +kernel
theorem dX11_positionY_16 : decode cX11_positionY 16 = .ok (.iload_n 2, 1) := by decide +kernel
theorem dX11_positionY_17 : decode cX11_positionY 17 = .ok (.invokevirtual 280, 3) := by decide +kernel
theorem dX11_positionY_20 : decode cX11_positionY 20 = .ok (.ireturn, 1) := by decide +kernel
set_option maxRecDepth 20000 in
theorem ggX11_moveFeature_X7_has : GoodIn wsX11_moveFeature wsX7_has := goodIn_r _ [9, 10, 71, 72, 73, 74] (by decide +kernel) (by decide +kernel)
set_option maxRecDepth 20000 in
theorem gX11_moveFeature_X7_has : GoodIn wsX11_moveFeature (wsV RX11 287 RX7 yX7_has wsX7_has) := goodIn_app (goodIn_of _ (by decide +kernel)) ggX11_moveFeature_X7_has
set_option maxRecDepth 20000 in
theorem ggX11_moveFeature_X8_hasPixel : GoodIn wsX11_moveFeature wsX8_hasPixel := goodIn_r _ [15, 16, 17, 62, 63, 64, 65, 66, 67, 68, 69, 70] (by decide +kernel) (by decide +kernel)
set_option maxRecDepth 20000 in
theorem gX11_moveFeature_X8_hasPixel : GoodIn wsX11_moveFeature (wsV RX11 154 RX8 yX8_hasPixel wsX8_hasPixel) := goodIn_app (goodIn_of _ (by decide +kernel)) ggX11_moveFeature_X8_hasPixel
set_option maxRecDepth 20000 in
theorem ggX11_moveFeature_X11_record : GoodIn wsX11_moveFeature wsX11_record := goodIn_r _ [22, 23, 24, 25, 26, 27, 28, 29, 30, 31, 32, 33, 34, 35, 36, 37, 38, 39, 40, 41, 42, 43, 44, 45, 53, 54, 55, 56, 57, 58, 59, 60, 61, 75, 76, 77, 78, 79, 80, 81, 82] (by decide +kernel) (by decide +kernel)
set_option maxRecDepth 20000 in
theorem gX11_moveFeature_X11_record : GoodIn wsX11_moveFeature (wsV RX11 133 RX11 yX11_record wsX11_record) := goodIn_app (goodIn_of _ (by decide +kernel)) ggX11_moveFeature_X11_record
set_option maxRecDepth 20000 in
theorem ggX11_moveFeature_X7_place : GoodIn wsX11_moveFeature wsX7_place := goodIn_r _ [49, 50, 51, 52, 6, 7, 8, 9, 10, 71, 72, 73, 74] (by decide +kernel) (by decide +kernel)
set_option maxRecDepth 20000 in
theorem gX11_moveFeature_X7_place : GoodIn wsX11_moveFeature (wsV RX11 294 RX7 yX7_place wsX7_place) := goodIn_app (goodIn_of _ (by decide +kernel)) ggX11_moveFeature_X7_place
theorem dX11_moveFeature_0 : decode cX11_moveFeature 0 = .ok (.aload_n 0, 1) := by decide +kernel
theorem dX11_moveFeature_1 : decode cX11_moveFeature 1 = .ok (.getfield 10, 3) := by decide +kernel
theorem dX11_moveFeature_4 : decode cX11_moveFeature 4 = .ok (.getfield 107, 3) := by decide +kernel
theorem dX11_moveFeature_7 : decode cX11_moveFeature 7 = .ok (.astore 4, 2) := by decide +kernel
theorem dX11_moveFeature_9 : decode cX11_moveFeature 9 = .ok (.aload 4, 2) := by decide +kernel
theorem dX11_moveFeature_11 : decode cX11_moveFeature 11 = .ok (.iload_n 1, 1) := by decide +kernel
theorem dX11_moveFeature_12 : decode cX11_moveFeature 12 = .ok (.invokevirtual 287, 3) := by decide +kernel
theorem dX11_moveFeature_15 : decode cX11_moveFeature 15 = .ok (.ifCond .eq 15, 3) := by decide +kernel
theorem dX11_moveFeature_18 : decode cX11_moveFeature 18 = .ok (.aload_n 0, 1) := by decide +kernel
theorem dX11_moveFeature_19 : decode cX11_moveFeature 19 = .ok (.getfield 10, 3) := by decide +kernel
theorem dX11_moveFeature_22 : decode cX11_moveFeature 22 = .ok (.iload_n 2, 1) := by decide +kernel
theorem dX11_moveFeature_23 : decode cX11_moveFeature 23 = .ok (.iload_n 3, 1) := by decide +kernel
theorem dX11_moveFeature_24 : decode cX11_moveFeature 24 = .ok (.invokevirtual 154, 3) := by decide +kernel
theorem dX11_moveFeature_27 : decode cX11_moveFeature 27 = .ok (.ifCond .ne 5, 3) := by decide +kernel
theorem dX11_moveFeature_30 : decode cX11_moveFeature 30 = .ok (.iconst 0, 1) := by decide +kernel
theorem dX11_moveFeature_31 : decode cX11_moveFeature 31 = .ok (.ireturn, 1) := by decide +kernel
theorem dX11_moveFeature_32 : decode cX11_moveFeature 32 = .ok (.aload_n 0, 1) := by decide +kernel
theorem dX11_moveFeature_33 : decode cX11_moveFeature 33 = .ok (.iconst 3, 1) := by decide +kernel
theorem dX11_moveFeature_34 : decode cX11_moveFeature 34 = .ok (.iload_n 1, 1) := by decide +kernel
theorem dX11_moveFeature_35 : decode cX11_moveFeature 35 = .ok (.aload 4, 2) := by decide +kernel
theorem dX11_moveFeature_37 : decode cX11_moveFeature 37 = .ok (.getfield 290, 3) := by decide +kernel
theorem dX11_moveFeature_40 : decode cX11_moveFeature 40 = .ok (.iload_n 1, 1) := by decide +kernel
theorem dX11_moveFeature_41 : decode cX11_moveFeature 41 = .ok (.iaload, 1) := by decide +kernel
theorem dX11_moveFeature_42 : decode cX11_moveFeature 42 = .ok (.aload 4, 2) := by decide +kernel
theorem dX11_moveFeature_44 : decode cX11_moveFeature 44 = .ok (.getfield 292, 3) := by decide +kernel
theorem dX11_moveFeature_47 : decode cX11_moveFeature 47 = .ok (.iload_n 1, 1) := by decide +kernel
theorem dX11_moveFeature_48 : decode cX11_moveFeature 48 = .ok (.iaload, 1) := by decide +kernel
theorem dX11_moveFeature_49 : decode cX11_moveFeature 49 = .ok (.iconst 0, 1) := by decide +kernel
theorem dX11_moveFeature_50 : decode cX11_moveFeature 50 = .ok (.invokevirtual 133, 3) := by decide +kernel
theorem dX11_moveFeature_53 : decode cX11_moveFeature 53 = .ok (.aload 4, 2) := by decide +kernel
theorem dX11_moveFeature_55 : decode cX11_moveFeature 55 = .ok (.iload_n 1, 1) := by decide +kernel
theorem dX11_moveFeature_56 : decode cX11_moveFeature 56 = .ok (.iload_n 2, 1) := by decide +kernel
theorem dX11_moveFeature_57 : decode cX11_moveFeature 57 = .ok (.iload_n 3, 1) := by decide +kernel
theorem dX11_moveFeature_58 : decode cX11_moveFeature 58 = .ok (.invokevirtual 294, 3) := by decide +kernel
theorem dX11_moveFeature_61 : decode cX11_moveFeature 61 = .ok (.iconst 1, 1) := by decide +kernel
theorem dX11_moveFeature_62 : decode cX11_moveFeature 62 = .ok (.ireturn, 1) := by decide +kernel
set_option maxRecDepth 20000 in
theorem ggX11_gapCount_X8_gapAfter : GoodIn wsX11_gapCount wsX8_gapAfter := goodIn_r _ [7, 8, 9, 10, 11, 6, 12, 13, 14, 15, 16, 17, 18, 19, 20, 21, 22, 23, 24, 25, 26, 27, 28, 29, 30, 31, 32, 33, 34, 35, 36, 37, 38, 39, 40, 41, 51, 52, 53, 54, 55, 56, 57, 58, 59, 60, 61] (by decide +kernel) (by decide +kernel)
set_option maxRecDepth 20000 in
theorem gX11_gapCount_X8_gapAfter : GoodIn wsX11_gapCount (wsV RX11 298 RX8 yX8_gapAfter wsX8_gapAfter) := goodIn_app (goodIn_of _ (by decide +kernel)) ggX11_gapCount_X8_gapAfter
theorem dX11_gapCount_0 : decode cX11_gapCount 0 = .ok (.iconst 0, 1) := by decide +kernel
theorem dX11_gapCount_1 : decode cX11_gapCount 1 = .ok (.istore_n 1, 1) := by decide +kernel
theorem dX11_gapCount_2 : decode cX11_gapCount 2 = .ok (.iconst 0, 1) := by decide +kernel
theorem dX11_gapCount_3 : decode cX11_gapCount 3 = .ok (.istore_n 2, 1) := by decide +kernel
theorem dX11_gapCount_4 : decode cX11_gapCount 4 = .ok (.iload_n 2, 1) := by decide +kernel
theorem dX11_gapCount_5 : decode cX11_gapCount 5 = .ok (.aload_n 0, 1) := by decide +kernel
theorem dX11_gapCount_6 : decode cX11_gapCount 6 = .ok (.getfield 10, 3) := by decide +kernel
theorem dX11_gapCount_9 : decode cX11_gapCount 9 = .ok (.getfield 95, 3) := by decide +kernel
theorem dX11_gapCount_12 : decode cX11_gapCount 12 = .ok (.if_icmp .ge 23, 3) := by decide +kernel
theorem dX11_gapCount_15 : decode cX11_gapCount 15 = .ok (.aload_n 0, 1) := by decide +kernel
theorem dX11_gapCount_16 : decode cX11_gapCount 16 = .ok (.getfield 10, 3) := by decide +kernel
theorem dX11_gapCount_19 : decode cX11_gapCount 19 = .ok (.iload_n 2, 1) := by decide +kernel
theorem dX11_gapCount_20 : decode cX11_gapCount 20 = .ok (.invokevirtual 298, 3) := by decide +kernel
theorem dX11_gapCount_23 : decode cX11_gapCount 23 = .ok (.ifCond .le 6, 3) := by decide +kernel
theorem dX11_gapCount_26 : decode cX11_gapCount 26 = .ok (.iinc 1 1, 3) := by decide +kernel
theorem dX11_gapCount_29 : decode cX11_gapCount 29 = .ok (.iinc 2 1, 3) := by decide +kernel
theorem dX11_gapCount_32 : decode cX11_gapCount 32 = .ok (.goto (-28), 3) := by decide +kernel
theorem dX11_gapCount_35 : decode cX11_gapCount 35 = .ok (.iload_n 1, 1) := by decide +kernel
theorem dX11_gapCount_36 : decode cX11_gapCount 36 = .ok (.ireturn, 1) := by decide +kernel
set_option maxRecDepth 20000 in
theorem ggX11_gapStart_X11_frameOfGap : GoodIn wsX11_gapStart wsX11_frameOfGap := goodIn_r _ [6, 1, 7, 8, 9, 10, 11, 12, 13, 14, 15, 16, 17, 18, 19, 20, 21, 22, 23, 24, 25, 26, 27, 28, 29, 30, 31, 32, 33, 34, 35, 36, 37, 38, 39, 40, 41, 42, 43, 44, 45, 46, 48, 49, 50, 51, 52, 53, 54, 55, 56, 57, 58, 59, 60, 61, 62, 63, 64, 65, 66, 67] (by decide +kernel) (by decide +kernel)
set_option maxRecDepth 20000 in
theorem gX11_gapStart_X11_frameOfGap : GoodIn wsX11_gapStart (wsV RX11 301 RX11 yX11_frameOfGap wsX11_frameOfGap) := goodIn_app (goodIn_of _ (by decide +kernel)) ggX11_gapStart_X11_frameOfGap
set_option maxRecDepth 20000 in
theorem ggX11_gapStart_X8_dayOf : GoodIn wsX11_gapStart wsX8_dayOf := goodIn_r _ [45, 27, 46, 18, 19, 20, 11, 21, 22, 57, 58, 59, 60, 61, 62, 63, 64, 65, 66, 67] (by decide +kernel) (by decide +kernel)
set_option maxRecDepth 20000 in
theorem gX11_gapStart_X8_dayOf : GoodIn wsX11_gapStart (wsV RX11 140 RX8 yX8_dayOf wsX8_dayOf) := goodIn_app (goodIn_of _ (by decide +kernel)) ggX11_gapStart_X8_dayOf
theorem dX11_gapStart_0 : decode cX11_gapStart 0 = .ok (.aload_n 0, 1) := by decide +kernel
theorem dX11_gapStart_1 : decode cX11_gapStart 1 = .ok (.iload_n 1, 1) := by decide +kernel
theorem dX11_gapStart_2 : decode cX11_gapStart 2 = .ok (.invokevirtual 301, 3) := by decide +kernel
theorem dX11_gapStart_5 : decode cX11_gapStart 5 = .ok (.istore_n 2, 1) := by decide +kernel
theorem dX11_gapStart_6 : decode cX11_gapStart 6 = .ok (.iload_n 2, 1) := by decide +kernel
theorem dX11_gapStart_7 : decode cX11_gapStart 7 = .ok (.iconst (-1), 1) := by decide +kernel
theorem dX11_gapStart_8 : decode cX11_gapStart 8 = .ok (.if_icmp .ne 7, 3) := by decide +kernel
theorem dX11_gapStart_11 : decode cX11_gapStart 11 = .ok (.iconst (-1), 1) := by decide +kernel
theorem dX11_gapStart_12 : decode cX11_gapStart 12 = .ok (.goto 11, 3) := by decide +kernel
theorem dX11_gapStart_15 : decode cX11_gapStart 15 = .ok (.aload_n 0, 1) := by decide +kernel
theorem dX11_gapStart_16 : decode cX11_gapStart 16 = .ok (.getfield 10, 3) := by decide +kernel
theorem dX11_gapStart_19 : decode cX11_gapStart 19 = .ok (.iload_n 2, 1) := by decide +kernel
theorem dX11_gapStart_20 : decode cX11_gapStart 20 = .ok (.invokevirtual 140, 3) := by decide +kernel
theorem dX11_gapStart_23 : decode cX11_gapStart 23 = .ok (.ireturn, 1) := by decide +kernel
set_option maxRecDepth 20000 in
theorem ggX11_gapDays_X11_frameOfGap : GoodIn wsX11_gapDays wsX11_frameOfGap := goodIn_r _ [6, 1, 7, 8, 9, 10, 11, 12, 13, 14, 15, 16, 17, 18, 19, 20, 21, 22, 23, 24, 25, 26, 27, 28, 29, 30, 31, 32, 33, 34, 35, 36, 37, 38, 39, 40, 41, 42, 43, 44, 45, 46, 47, 48, 49, 50, 51, 52, 53, 54, 55, 56, 57, 58, 59, 60, 61, 62, 63, 64, 65, 66] (by decide +kernel) (by decide +kernel)
set_option maxRecDepth 20000 in
theorem gX11_gapDays_X11_frameOfGap : GoodIn wsX11_gapDays (wsV RX11 301 RX11 yX11_frameOfGap wsX11_frameOfGap) := goodIn_app (goodIn_of _ (by decide +kernel)) ggX11_gapDays_X11_frameOfGap
set_option maxRecDepth 20000 in
theorem ggX11_gapDays_X8_gapAfter : GoodIn wsX11_gapDays wsX8_gapAfter := goodIn_r _ [12, 13, 14, 15, 16, 11, 17, 18, 19, 20, 21, 22, 23, 24, 25, 26, 27, 28, 29, 30, 31, 32, 33, 34, 35, 36, 37, 38, 39, 40, 41, 42, 43, 44, 45, 46, 56, 57, 58, 59, 60, 61, 62, 63, 64, 65, 66] (by decide +kernel) (by decide +kernel)
set_option maxRecDepth 20000 in
theorem gX11_gapDays_X8_gapAfter : GoodIn wsX11_gapDays (wsV RX11 298 RX8 yX8_gapAfter wsX8_gapAfter) := goodIn_app (goodIn_of _ (by decide +kernel)) ggX11_gapDays_X8_gapAfter
theorem dX11_gapDays_0 : decode cX11_gapDays 0 = .ok (.aload_n 0, 1) := by decide +kernel
theorem dX11_gapDays_1 : decode cX11_gapDays 1 = .ok (.iload_n 1, 1) := by decide +kernel
theorem dX11_gapDays_2 : decode cX11_gapDays 2 = .ok (.invokevirtual 301, 3) := by decide +kernel
theorem dX11_gapDays_5 : decode cX11_gapDays 5 = .ok (.istore_n 2, 1) := by decide +kernel
theorem dX11_gapDays_6 : decode cX11_gapDays 6 = .ok (.iload_n 2, 1) := by decide +kernel
theorem dX11_gapDays_7 : decode cX11_gapDays 7 = .ok (.iconst (-1), 1) := by decide +kernel
theorem dX11_gapDays_8 : decode cX11_gapDays 8 = .ok (.if_icmp .ne 7, 3) := by decide +kernel
theorem dX11_gapDays_11 : decode cX11_gapDays 11 = .ok (.iconst (-1), 1) := by decide +kernel
theorem dX11_gapDays_12 : decode cX11_gapDays 12 = .ok (.goto 11, 3) := by decide +kernel
theorem dX11_gapDays_15 : decode cX11_gapDays 15 = .ok (.aload_n 0, 1) := by decide +kernel
theorem dX11_gapDays_16 : decode cX11_gapDays 16 = .ok (.getfield 10, 3) := by decide +kernel
theorem dX11_gapDays_19 : decode cX11_gapDays 19 = .ok (.iload_n 2, 1) := by decide +kernel
theorem dX11_gapDays_20 : decode cX11_gapDays 20 = .ok (.invokevirtual 298, 3) := by decide +kernel
theorem dX11_gapDays_23 : decode cX11_gapDays 23 = .ok (.ireturn, 1) := by decide +kernel
set_option maxRecDepth 20000 in
theorem ggX11_longestGap_X8_gapAfter : GoodIn wsX11_longestGap wsX8_gapAfter := goodIn_r _ [11, 12, 13, 14, 15, 10, 16, 17, 18, 19, 20, 21, 22, 23, 24, 25, 26, 27, 28, 29, 30, 31, 5, 32, 33, 4, 6, 34, 35, 36, 37, 38, 39, 40, 41, 42, 52, 53, 54, 55, 56, 57, 58, 59, 60, 61, 62] (by decide +kernel) (by decide +kernel)
set_option maxRecDepth 20000 in
theorem gX11_longestGap_X8_gapAfter : GoodIn wsX11_longestGap (wsV RX11 298 RX8 yX8_gapAfter wsX8_gapAfter) := goodIn_app (goodIn_of _ (by decide +kernel)) ggX11_longestGap_X8_gapAfter
theorem dX11_longestGap_0 : decode cX11_longestGap 0 = .ok (.iconst 0, 1) := by decide +kernel
theorem dX11_longestGap_1 : decode cX11_longestGap 1 = .ok (.istore_n 1, 1) := by decide +kernel
theorem dX11_longestGap_2 : decode cX11_longestGap 2 = .ok (.iconst 0, 1) := by decide +kernel
theorem dX11_longestGap_3 : decode cX11_longestGap 3 = .ok (.istore_n 2, 1) := by decide +kernel
theorem dX11_longestGap_4 : decode cX11_longestGap 4 = .ok (.iload_n 2, 1) := by decide +kernel
theorem dX11_longestGap_5 : decode cX11_longestGap 5 = .ok (.aload_n 0, 1) := by decide +kernel
theorem dX11_longestGap_6 : decode cX11_longestGap 6 = .ok (.getfield 10, 3) := by decide +kernel
theorem dX11_longestGap_9 : decode cX11_longestGap 9 = .ok (.getfield 95, 3) := by decide +kernel
theorem dX11_longestGap_12 : decode cX11_longestGap 12 = .ok (.if_icmp .ge 22, 3) := by decide +kernel
theorem dX11_longestGap_15 : decode cX11_longestGap 15 = .ok (.iload_n 1, 1) := by decide +kernel
theorem dX11_longestGap_16 : decode cX11_longestGap 16 = .ok (.aload_n 0, 1) := by decide +kernel
theorem dX11_longestGap_17 : decode cX11_longestGap 17 = .ok (.getfield 10, 3) := by decide +kernel
theorem dX11_longestGap_20 : decode cX11_longestGap 20 = .ok (.iload_n 2, 1) := by decide +kernel
theorem dX11_longestGap_21 : decode cX11_longestGap 21 = .ok (.invokevirtual 298, 3) := by decide +kernel
theorem dX11_longestGap_24 : decode cX11_longestGap 24 = .ok (.invokestatic 304, 3) := by decide +kernel
theorem dX11_longestGap_27 : decode cX11_longestGap 27 = .ok (.istore_n 1, 1) := by decide +kernel
theorem dX11_longestGap_28 : decode cX11_longestGap 28 = .ok (.iinc 2 1, 3) := by decide +kernel
theorem dX11_longestGap_31 : decode cX11_longestGap 31 = .ok (.goto (-27), 3) := by decide +kernel
theorem dX11_longestGap_34 : decode cX11_longestGap 34 = .ok (.iload_n 1, 1) := by decide +kernel
theorem dX11_longestGap_35 : decode cX11_longestGap 35 = .ok (.ireturn, 1) := by decide +kernel
set_option maxRecDepth 20000 in
theorem ggX11_readingCount_X11_requireStake : GoodIn wsX11_readingCount wsX11_requireStake := goodIn_ca (goodIn_r _ [8, 9, 10, 1, 11, 12, 13, 14, 15, 16, 17, 18, 19, 20, 21, 22, 23, 24, 25, 26, 27, 28, 29, 30, 31, 32, 33, 34] (by decide +kernel) (by decide +kernel)) (goodIn_sub (fun _ h => List.mem_cons_of_mem _ (List.mem_append_right _ h)) (by decide +kernel))
set_option maxRecDepth 20000 in
theorem gX11_readingCount_X11_requireStake : GoodIn wsX11_readingCount (wsV RX11 309 RX11 yX11_requireStake wsX11_requireStake) := goodIn_app (goodIn_of _ (by decide +kernel)) ggX11_readingCount_X11_requireStake
theorem dX11_readingCount_0 : decode cX11_readingCount 0 = .ok (.aload_n 0, 1) := by decide +kernel
theorem dX11_readingCount_1 : decode cX11_readingCount 1 = .ok (.iload_n 1, 1) := by decide +kernel
theorem dX11_readingCount_2 : decode cX11_readingCount 2 = .ok (.invokevirtual 309, 3) := by decide +kernel
theorem dX11_readingCount_5 : decode cX11_readingCount 5 = .ok (.aload_n 0, 1) := by decide +kernel
theorem dX11_readingCount_6 : decode cX11_readingCount 6 = .ok (.getfield 10, 3) := by decide +kernel
theorem dX11_readingCount_9 : decode cX11_readingCount 9 = .ok (.getfield 312, 3) := by decide +kernel
theorem dX11_readingCount_12 : decode cX11_readingCount 12 = .ok (.iload_n 1, 1) := by decide +kernel
theorem dX11_readingCount_13 : decode cX11_readingCount 13 = .ok (.aaload, 1) := by decide +kernel
theorem dX11_readingCount_14 : decode cX11_readingCount 14 = .ok (.getfield 316, 3) := by decide +kernel
theorem dX11_readingCount_17 : decode cX11_readingCount 17 = .ok (.ireturn, 1) := by decide +kernel
set_option maxRecDepth 20000 in
theorem ggX11_readingDay_X11_requireReading : GoodIn wsX11_readingDay wsX11_requireReading := goodIn_ca (goodIn_r _ [8, 9, 10, 1, 2, 11, 12, 13, 14, 7, 15, 16, 17, 18, 19, 20, 21, 22, 23, 24, 25, 26, 27, 28, 29, 30, 31, 32, 33, 34, 35, 36, 37, 38, 39, 40, 41, 42] (by decide +kernel) (by decide +kernel)) (goodIn_sub (fun _ h => List.mem_cons_of_mem _ (List.mem_append_right _ h)) (by decide +kernel))
set_option maxRecDepth 20000 in
theorem gX11_readingDay_X11_requireReading : GoodIn wsX11_readingDay (wsV RX11 319 RX11 yX11_requireReading wsX11_requireReading) := goodIn_app (goodIn_of _ (by decide +kernel)) ggX11_readingDay_X11_requireReading
theorem dX11_readingDay_0 : decode cX11_readingDay 0 = .ok (.aload_n 0, 1) := by decide +kernel
theorem dX11_readingDay_1 : decode cX11_readingDay 1 = .ok (.iload_n 1, 1) := by decide +kernel
theorem dX11_readingDay_2 : decode cX11_readingDay 2 = .ok (.iload_n 2, 1) := by decide +kernel
theorem dX11_readingDay_3 : decode cX11_readingDay 3 = .ok (.invokevirtual 319, 3) := by decide +kernel
theorem dX11_readingDay_6 : decode cX11_readingDay 6 = .ok (.aload_n 0, 1) := by decide +kernel
theorem dX11_readingDay_7 : decode cX11_readingDay 7 = .ok (.getfield 10, 3) := by decide +kernel
theorem dX11_readingDay_10 : decode cX11_readingDay 10 = .ok (.getfield 312, 3) := by decide +kernel
theorem dX11_readingDay_13 : decode cX11_readingDay 13 = .ok (.iload_n 1, 1) := by decide +kernel
theorem dX11_readingDay_14 : decode cX11_readingDay 14 = .ok (.aaload, 1) := by decide +kernel
theorem dX11_readingDay_15 : decode cX11_readingDay 15 = .ok (.getfield 322, 3) := by decide +kernel
theorem dX11_readingDay_18 : decode cX11_readingDay 18 = .ok (.iload_n 2, 1) := by decide +kernel
theorem dX11_readingDay_19 : decode cX11_readingDay 19 = .ok (.iaload, 1) := by decide +kernel
theorem dX11_readingDay_20 : decode cX11_readingDay 20 = .ok (.ireturn, 1) := by decide +kernel
set_option maxRecDepth 20000 in
theorem ggX11_readingLength_X11_requireReading : GoodIn wsX11_readingLength wsX11_requireReading := goodIn_ca (goodIn_r _ [8, 9, 10, 1, 2, 11, 12, 13, 14, 7, 15, 16, 17, 18, 19, 20, 21, 22, 23, 24, 25, 26, 27, 28, 29, 30, 31, 32, 33, 34, 35, 36, 37, 38, 39, 40, 41, 42] (by decide +kernel) (by decide +kernel)) (goodIn_sub (fun _ h => List.mem_cons_of_mem _ (List.mem_append_right _ h)) (by decide +kernel))
set_option maxRecDepth 20000 in
theorem gX11_readingLength_X11_requireReading : GoodIn wsX11_readingLength (wsV RX11 319 RX11 yX11_requireReading wsX11_requireReading) := goodIn_app (goodIn_of _ (by decide +kernel)) ggX11_readingLength_X11_requireReading
theorem dX11_readingLength_0 : decode cX11_readingLength 0 = .ok (.aload_n 0, 1) := by decide +kernel
theorem dX11_readingLength_1 : decode cX11_readingLength 1 = .ok (.iload_n 1, 1) := by decide +kernel
theorem dX11_readingLength_2 : decode cX11_readingLength 2 = .ok (.iload_n 2, 1) := by decide +kernel
theorem dX11_readingLength_3 : decode cX11_readingLength 3 = .ok (.invokevirtual 319, 3) := by decide +kernel
theorem dX11_readingLength_6 : decode cX11_readingLength 6 = .ok (.aload_n 0, 1) := by decide +kernel
theorem dX11_readingLength_7 : decode cX11_readingLength 7 = .ok (.getfield 10, 3) := by decide +kernel
theorem dX11_readingLength_10 : decode cX11_readingLength 10 = .ok (.getfield 312, 3) := by decide +kernel
theorem dX11_readingLength_13 : decode cX11_readingLength 13 = .ok (.iload_n 1, 1) := by decide +kernel
theorem dX11_readingLength_14 : decode cX11_readingLength 14 = .ok (.aaload, 1) := by decide +kernel
theorem dX11_readingLength_15 : decode cX11_readingLength 15 = .ok (.getfield 325, 3) := by decide +kernel
theorem dX11_readingLength_18 : decode cX11_readingLength 18 = .ok (.iload_n 2, 1) := by decide +kernel
theorem dX11_readingLength_19 : decode cX11_readingLength 19 = .ok (.iaload, 1) := by decide +kernel
theorem dX11_readingLength_20 : decode cX11_readingLength 20 = .ok (.ireturn, 1) := by decide +kernel
set_option maxRecDepth 20000 in
theorem ggX11_addReading_X8_hasStake : GoodIn wsX11_addReading wsX8_hasStake := goodIn_r _ [8, 9, 62, 63, 64, 65, 66, 67, 68, 69, 70] (by decide +kernel) (by decide +kernel)
set_option maxRecDepth 20000 in
theorem gX11_addReading_X8_hasStake : GoodIn wsX11_addReading (wsV RX11 328 RX8 yX8_hasStake wsX8_hasStake) := goodIn_app (goodIn_of _ (by decide +kernel)) ggX11_addReading_X8_hasStake
set_option maxRecDepth 20000 in
theorem ggX11_addReading_X11_isBetween : GoodIn wsX11_addReading wsX11_isBetween := goodIn_r _ [13] (by decide +kernel) (by decide +kernel)
set_option maxRecDepth 20000 in
theorem gX11_addReading_X11_isBetween : GoodIn wsX11_addReading (va_wsS RX11 127 yX11_isBetween wsX11_isBetween) := goodIn_app (goodIn_of _ (by decide +kernel)) ggX11_addReading_X11_isBetween
set_option maxRecDepth 20000 in
theorem ggX11_addReading_X9_readingOn : GoodIn wsX11_addReading wsX9_readingOn := goodIn_r _ [18, 19, 20, 71, 72, 73] (by decide +kernel) (by decide +kernel)
set_option maxRecDepth 20000 in
theorem gX11_addReading_X9_readingOn : GoodIn wsX11_addReading (wsV RX11 331 RX9 yX9_readingOn wsX9_readingOn) := goodIn_app (goodIn_of _ (by decide +kernel)) ggX11_addReading_X9_readingOn
set_option maxRecDepth 20000 in
theorem ggX11_addReading_X11_record : GoodIn wsX11_addReading wsX11_record := goodIn_r _ [24, 25, 26, 27, 28, 29, 30, 31, 32, 33, 34, 35, 36, 37, 38, 39, 40, 41, 42, 43, 44, 45, 46, 47, 53, 54, 55, 56, 57, 58, 59, 60, 61, 74, 75, 76, 77, 78, 79, 80, 81] (by decide +kernel) (by decide +kernel)
set_option maxRecDepth 20000 in
theorem gX11_addReading_X11_record : GoodIn wsX11_addReading (wsV RX11 133 RX11 yX11_record wsX11_record) := goodIn_app (goodIn_of _ (by decide +kernel)) ggX11_addReading_X11_record
set_option maxRecDepth 20000 in
theorem ggX11_addReading_X9_insert : GoodIn wsX11_addReading wsX9_insert := goodIn_r _ [51, 19, 20, 52, 71, 72, 73] (by decide +kernel) (by decide +kernel)
set_option maxRecDepth 20000 in
theorem gX11_addReading_X9_insert : GoodIn wsX11_addReading (wsV RX11 334 RX9 yX9_insert wsX9_insert) := goodIn_app (goodIn_of _ (by decide +kernel)) ggX11_addReading_X9_insert
theorem dX11_addReading_0 : decode cX11_addReading 0 = .ok (.aload_n 0, 1) := by decide +kernel
theorem dX11_addReading_1 : decode cX11_addReading 1 = .ok (.getfield 10, 3) := by decide +kernel
theorem dX11_addReading_4 : decode cX11_addReading 4 = .ok (.iload_n 1, 1) := by decide +kernel
theorem dX11_addReading_5 : decode cX11_addReading 5 = .ok (.invokevirtual 328, 3) := by decide +kernel
theorem dX11_addReading_8 : decode cX11_addReading 8 = .ok (.ifCond .ne 5, 3) := by decide +kernel
theorem dX11_addReading_11 : decode cX11_addReading 11 = .ok (.iconst (-1), 1) := by decide +kernel
theorem dX11_addReading_12 : decode cX11_addReading 12 = .ok (.ireturn, 1) := by decide +kernel
theorem dX11_addReading_13 : decode cX11_addReading 13 = .ok (.aload_n 0, 1) := by decide +kernel
theorem dX11_addReading_14 : decode cX11_addReading 14 = .ok (.getfield 10, 3) := by decide +kernel
theorem dX11_addReading_17 : decode cX11_addReading 17 = .ok (.getfield 312, 3) := by decide +kernel
theorem dX11_addReading_20 : decode cX11_addReading 20 = .ok (.iload_n 1, 1) := by decide +kernel
theorem dX11_addReading_21 : decode cX11_addReading 21 = .ok (.aaload, 1) := by decide +kernel
theorem dX11_addReading_22 : decode cX11_addReading 22 = .ok (.astore 4, 2) := by decide +kernel
theorem dX11_addReading_24 : decode cX11_addReading 24 = .ok (.iload_n 2, 1) := by decide +kernel
theorem dX11_addReading_25 : decode cX11_addReading 25 = .ok (.iconst 0, 1) := by decide +kernel
theorem dX11_addReading_26 : decode cX11_addReading 26 = .ok (.sipush 9999, 3) := by decide +kernel
theorem dX11_addReading_29 : decode cX11_addReading 29 = .ok (.invokestatic 127, 3) := by decide +kernel
theorem dX11_addReading_32 : decode cX11_addReading 32 = .ok (.ifCond .eq 24, 3) := by decide +kernel
theorem dX11_addReading_35 : decode cX11_addReading 35 = .ok (.iload_n 3, 1) := by decide +kernel
theorem dX11_addReading_36 : decode cX11_addReading 36 = .ok (.iconst 0, 1) := by decide +kernel
theorem dX11_addReading_37 : decode cX11_addReading 37 = .ok (.sipush 9999, 3) := by decide +kernel
theorem dX11_addReading_40 : decode cX11_addReading 40 = .ok (.invokestatic 127, 3) := by decide +kernel
theorem dX11_addReading_43 : decode cX11_addReading 43 = .ok (.ifCond .eq 13, 3) := by decide +kernel
theorem dX11_addReading_46 : decode cX11_addReading 46 = .ok (.aload 4, 2) := by decide +kernel
theorem dX11_addReading_48 : decode cX11_addReading 48 = .ok (.iload_n 2, 1) := by decide +kernel
theorem dX11_addReading_49 : decode cX11_addReading 49 = .ok (.invokevirtual 331, 3) := by decide +kernel
theorem dX11_addReading_52 : decode cX11_addReading 52 = .ok (.iconst (-1), 1) := by decide +kernel
theorem dX11_addReading_53 : decode cX11_addReading 53 = .ok (.if_icmp .eq 6, 3) := by decide +kernel
theorem dX11_addReading_56 : decode cX11_addReading 56 = .ok (.bipush (-2), 2) := by decide +kernel
theorem dX11_addReading_58 : decode cX11_addReading 58 = .ok (.ireturn, 1) := by decide +kernel
theorem dX11_addReading_59 : decode cX11_addReading 59 = .ok (.aload 4, 2) := by decide +kernel
theorem dX11_addReading_61 : decode cX11_addReading 61 = .ok (.getfield 316, 3) := by decide +kernel
theorem dX11_addReading_64 : decode cX11_addReading 64 = .ok (.bipush 8, 2) := by decide +kernel
theorem dX11_addReading_66 : decode cX11_addReading 66 = .ok (.if_icmp .lt 6, 3) := by decide +kernel
theorem dX11_addReading_69 : decode cX11_addReading 69 = .ok (.bipush (-3), 2) := by decide +kernel
theorem dX11_addReading_71 : decode cX11_addReading 71 = .ok (.ireturn, 1) := by decide +kernel
theorem dX11_addReading_72 : decode cX11_addReading 72 = .ok (.aload_n 0, 1) := by decide +kernel
theorem dX11_addReading_73 : decode cX11_addReading 73 = .ok (.iconst 4, 1) := by decide +kernel
theorem dX11_addReading_74 : decode cX11_addReading 74 = .ok (.iload_n 1, 1) := by decide +kernel
theorem dX11_addReading_75 : decode cX11_addReading 75 = .ok (.iload_n 2, 1) := by decide +kernel
theorem dX11_addReading_76 : decode cX11_addReading 76 = .ok (.iconst 0, 1) := by decide +kernel
theorem dX11_addReading_77 : decode cX11_addReading 77 = .ok (.iconst 0, 1) := by decide +kernel
theorem dX11_addReading_78 : decode cX11_addReading 78 = .ok (.invokevirtual 133, 3) := by decide +kernel
theorem dX11_addReading_81 : decode cX11_addReading 81 = .ok (.aload 4, 2) := by decide +kernel
theorem dX11_addReading_83 : decode cX11_addReading 83 = .ok (.iload_n 2, 1) := by decide +kernel
theorem dX11_addReading_84 : decode cX11_addReading 84 = .ok (.iload_n 3, 1) := by decide +kernel
theorem dX11_addReading_85 : decode cX11_addReading 85 = .ok (.invokevirtual 334, 3) := by decide +kernel
theorem dX11_addReading_88 : decode cX11_addReading 88 = .ok (.aload 4, 2) := by decide +kernel
theorem dX11_addReading_90 : decode cX11_addReading 90 = .ok (.getfield 316, 3) := by decide +kernel
theorem dX11_addReading_93 : decode cX11_addReading 93 = .ok (.ireturn, 1) := by decide +kernel
set_option maxRecDepth 20000 in
theorem ggX11_removeReading_X8_hasStake : GoodIn wsX11_removeReading wsX8_hasStake := goodIn_r _ [9, 10, 61, 62, 63, 64, 65, 66, 67, 68, 69] (by decide +kernel) (by decide +kernel)
set_option maxRecDepth 20000 in
theorem gX11_removeReading_X8_hasStake : GoodIn wsX11_removeReading (wsV RX11 328 RX8 yX8_hasStake wsX8_hasStake) := goodIn_app (goodIn_of _ (by decide +kernel)) ggX11_removeReading_X8_hasStake
set_option maxRecDepth 20000 in
theorem ggX11_removeReading_X9_readingOn : GoodIn wsX11_removeReading wsX9_readingOn := goodIn_r _ [15, 16, 17, 70, 71, 72] (by decide +kernel) (by decide +kernel)
set_option maxRecDepth 20000 in
theorem gX11_removeReading_X9_readingOn : GoodIn wsX11_removeReading (wsV RX11 331 RX9 yX9_readingOn wsX9_readingOn) := goodIn_app (goodIn_of _ (by decide +kernel)) ggX11_removeReading_X9_readingOn
set_option maxRecDepth 20000 in
theorem ggX11_removeReading_X11_record : GoodIn wsX11_removeReading wsX11_record := goodIn_r _ [22, 23, 24, 25, 26, 27, 28, 29, 30, 31, 32, 33, 34, 35, 36, 37, 38, 39, 40, 41, 42, 43, 44, 45, 52, 53, 54, 55, 56, 57, 58, 59, 60, 73, 74, 75, 76, 77, 78, 79, 80] (by decide +kernel) (by decide +kernel)
set_option maxRecDepth 20000 in
theorem gX11_removeReading_X11_record : GoodIn wsX11_removeReading (wsV RX11 133 RX11 yX11_record wsX11_record) := goodIn_app (goodIn_of _ (by decide +kernel)) ggX11_removeReading_X11_record
set_option maxRecDepth 20000 in
theorem ggX11_removeReading_X9_delete : GoodIn wsX11_removeReading wsX9_delete := goodIn_r _ [49, 16, 17, 50, 51, 12, 13, 14, 15, 70, 71, 72] (by decide +kernel) (by decide +kernel)
set_option maxRecDepth 20000 in
theorem gX11_removeReading_X9_delete : GoodIn wsX11_removeReading (wsV RX11 337 RX9 yX9_delete wsX9_delete) := goodIn_app (goodIn_of _ (by decide +kernel)) ggX11_removeReading_X9_delete
theorem dX11_removeReading_0 : decode cX11_removeReading 0 = .ok (.aload_n 0, 1) := by decide +kernel
theorem dX11_removeReading_1 : decode cX11_removeReading 1 = .ok (.getfield 10, 3) := by decide +kernel
theorem dX11_removeReading_4 : decode cX11_removeReading 4 = .ok (.iload_n 1, 1) := by decide +kernel
theorem dX11_removeReading_5 : decode cX11_removeReading 5 = .ok (.invokevirtual 328, 3) := by decide +kernel
theorem dX11_removeReading_8 : decode cX11_removeReading 8 = .ok (.ifCond .ne 5, 3) := by decide +kernel
theorem dX11_removeReading_11 : decode cX11_removeReading 11 = .ok (.iconst (-1), 1) := by decide +kernel
theorem dX11_removeReading_12 : decode cX11_removeReading 12 = .ok (.ireturn, 1) := by decide +kernel
theorem dX11_removeReading_13 : decode cX11_removeReading 13 = .ok (.aload_n 0, 1) := by decide +kernel
theorem dX11_removeReading_14 : decode cX11_removeReading 14 = .ok (.getfield 10, 3) := by decide +kernel
theorem dX11_removeReading_17 : decode cX11_removeReading 17 = .ok (.getfield 312, 3) := by decide +kernel
theorem dX11_removeReading_20 : decode cX11_removeReading 20 = .ok (.iload_n 1, 1) := by decide +kernel
theorem dX11_removeReading_21 : decode cX11_removeReading 21 = .ok (.aaload, 1) := by decide +kernel
theorem dX11_removeReading_22 : decode cX11_removeReading 22 = .ok (.astore_n 3, 1) := by decide +kernel
theorem dX11_removeReading_23 : decode cX11_removeReading 23 = .ok (.aload_n 3, 1) := by decide +kernel
theorem dX11_removeReading_24 : decode cX11_removeReading 24 = .ok (.iload_n 2, 1) := by decide +kernel
theorem dX11_removeReading_25 : decode cX11_removeReading 25 = .ok (.invokevirtual 331, 3) := by decide +kernel
theorem dX11_removeReading_28 : decode cX11_removeReading 28 = .ok (.istore 4, 2) := by decide +kernel
theorem dX11_removeReading_30 : decode cX11_removeReading 30 = .ok (.iload 4, 2) := by decide +kernel
theorem dX11_removeReading_32 : decode cX11_removeReading 32 = .ok (.iconst (-1), 1) := by decide +kernel
theorem dX11_removeReading_33 : decode cX11_removeReading 33 = .ok (.if_icmp .ne 5, 3) := by decide +kernel
theorem dX11_removeReading_36 : decode cX11_removeReading 36 = .ok (.iconst (-1), 1) := by decide +kernel
theorem dX11_removeReading_37 : decode cX11_removeReading 37 = .ok (.ireturn, 1) := by decide +kernel
theorem dX11_removeReading_38 : decode cX11_removeReading 38 = .ok (.aload_n 0, 1) := by decide +kernel
theorem dX11_removeReading_39 : decode cX11_removeReading 39 = .ok (.iconst 5, 1) := by decide +kernel
theorem dX11_removeReading_40 : decode cX11_removeReading 40 = .ok (.iload_n 1, 1) := by decide +kernel
theorem dX11_removeReading_41 : decode cX11_removeReading 41 = .ok (.iload_n 2, 1) := by decide +kernel
theorem dX11_removeReading_42 : decode cX11_removeReading 42 = .ok (.iconst 0, 1) := by decide +kernel
theorem dX11_removeReading_43 : decode cX11_removeReading 43 = .ok (.aload_n 3, 1) := by decide +kernel
theorem dX11_removeReading_44 : decode cX11_removeReading 44 = .ok (.getfield 325, 3) := by decide +kernel
theorem dX11_removeReading_47 : decode cX11_removeReading 47 = .ok (.iload 4, 2) := by decide +kernel
theorem dX11_removeReading_49 : decode cX11_removeReading 49 = .ok (.iaload, 1) := by decide +kernel
theorem dX11_removeReading_50 : decode cX11_removeReading 50 = .ok (.invokevirtual 133, 3) := by decide +kernel
theorem dX11_removeReading_53 : decode cX11_removeReading 53 = .ok (.aload_n 3, 1) := by decide +kernel
theorem dX11_removeReading_54 : decode cX11_removeReading 54 = .ok (.iload_n 2, 1) := by decide +kernel
theorem dX11_removeReading_55 : decode cX11_removeReading 55 = .ok (.invokevirtual 337, 3) := by decide +kernel
theorem dX11_removeReading_58 : decode cX11_removeReading 58 = .ok (.aload_n 3, 1) := by decide +kernel
theorem dX11_removeReading_59 : decode cX11_removeReading 59 = .ok (.getfield 316, 3) := by decide +kernel
theorem dX11_removeReading_62 : decode cX11_removeReading 62 = .ok (.ireturn, 1) := by decide +kernel
set_option maxRecDepth 20000 in
theorem ggX11_drillCount_X11_requireStake : GoodIn wsX11_drillCount wsX11_requireStake := goodIn_ca (goodIn_r _ [8, 9, 10, 1, 11, 12, 13, 14, 15, 16, 28, 29, 30, 31, 32, 33, 34, 35, 36, 37, 38, 39, 40, 41, 42, 43, 44, 45] (by decide +kernel) (by decide +kernel)) (goodIn_sub (fun _ h => List.mem_cons_of_mem _ (List.mem_append_right _ h)) (by decide +kernel))
set_option maxRecDepth 20000 in
theorem gX11_drillCount_X11_requireStake : GoodIn wsX11_drillCount (wsV RX11 309 RX11 yX11_requireStake wsX11_requireStake) := goodIn_app (goodIn_of _ (by decide +kernel)) ggX11_drillCount_X11_requireStake
set_option maxRecDepth 20000 in
theorem ggX11_drillCount_X9_drilledIn : GoodIn wsX11_drillCount wsX9_drilledIn := goodIn_r _ [21, 22, 23, 24, 25, 20, 26, 27, 46, 47, 48] (by decide +kernel) (by decide +kernel)
set_option maxRecDepth 20000 in
theorem gX11_drillCount_X9_drilledIn : GoodIn wsX11_drillCount (wsV RX11 340 RX9 yX9_drilledIn wsX9_drilledIn) := goodIn_app (goodIn_of _ (by decide +kernel)) ggX11_drillCount_X9_drilledIn
theorem dX11_drillCount_0 : decode cX11_drillCount 0 = .ok (.aload_n 0, 1) := by decide +kernel
theorem dX11_drillCount_1 : decode cX11_drillCount 1 = .ok (.iload_n 1, 1) := by decide +kernel
theorem dX11_drillCount_2 : decode cX11_drillCount 2 = .ok (.invokevirtual 309, 3) := by decide +kernel
theorem dX11_drillCount_5 : decode cX11_drillCount 5 = .ok (.aload_n 0, 1) := by decide +kernel
theorem dX11_drillCount_6 : decode cX11_drillCount 6 = .ok (.getfield 10, 3) := by decide +kernel
theorem dX11_drillCount_9 : decode cX11_drillCount 9 = .ok (.getfield 312, 3) := by decide +kernel
theorem dX11_drillCount_12 : decode cX11_drillCount 12 = .ok (.iload_n 1, 1) := by decide +kernel
theorem dX11_drillCount_13 : decode cX11_drillCount 13 = .ok (.aaload, 1) := by decide +kernel
theorem dX11_drillCount_14 : decode cX11_drillCount 14 = .ok (.astore_n 2, 1) := by decide +kernel
theorem dX11_drillCount_15 : decode cX11_drillCount 15 = .ok (.iconst 0, 1) := by decide +kernel
theorem dX11_drillCount_16 : decode cX11_drillCount 16 = .ok (.istore_n 3, 1) := by decide +kernel
theorem dX11_drillCount_17 : decode cX11_drillCount 17 = .ok (.iconst 0, 1) := by decide +kernel
theorem dX11_drillCount_18 : decode cX11_drillCount 18 = .ok (.istore 4, 2) := by decide +kernel
theorem dX11_drillCount_20 : decode cX11_drillCount 20 = .ok (.iload 4, 2) := by decide +kernel
theorem dX11_drillCount_22 : decode cX11_drillCount 22 = .ok (.aload_n 2, 1) := by decide +kernel
theorem dX11_drillCount_23 : decode cX11_drillCount 23 = .ok (.getfield 316, 3) := by decide +kernel
theorem dX11_drillCount_26 : decode cX11_drillCount 26 = .ok (.iconst 1, 1) := by decide +kernel
theorem dX11_drillCount_27 : decode cX11_drillCount 27 = .ok (.isub, 1) := by decide +kernel
theorem dX11_drillCount_28 : decode cX11_drillCount 28 = .ok (.if_icmp .ge 21, 3) := by decide +kernel
theorem dX11_drillCount_31 : decode cX11_drillCount 31 = .ok (.aload_n 2, 1) := by decide +kernel
theorem dX11_drillCount_32 : decode cX11_drillCount 32 = .ok (.iload 4, 2) := by decide +kernel
theorem dX11_drillCount_34 : decode cX11_drillCount 34 = .ok (.invokevirtual 340, 3) := by decide +kernel
theorem dX11_drillCount_37 : decode cX11_drillCount 37 = .ok (.ifCond .eq 6, 3) := by decide +kernel
theorem dX11_drillCount_40 : decode cX11_drillCount 40 = .ok (.iinc 3 1, 3) := by decide +kernel
theorem dX11_drillCount_43 : decode cX11_drillCount 43 = .ok (.iinc 4 1, 3) := by decide +kernel
theorem dX11_drillCount_46 : decode cX11_drillCount 46 = .ok (.goto (-26), 3) := by decide +kernel
theorem dX11_drillCount_49 : decode cX11_drillCount 49 = .ok (.iload_n 3, 1) := by decide +kernel
theorem dX11_drillCount_50 : decode cX11_drillCount 50 = .ok (.ireturn, 1) := by decide +kernel
set_option maxRecDepth 20000 in
theorem ggX11_meltTo_X11_requireStake : GoodIn wsX11_meltTo wsX11_requireStake := goodIn_ca (goodIn_r _ [7, 8, 9, 1, 10, 11, 12, 13, 14, 15, 41, 42, 43, 44, 45, 46, 47, 48, 49, 50, 51, 52, 53, 54, 55, 56, 57, 58] (by decide +kernel) (by decide +kernel)) (goodIn_sub (fun _ h => List.mem_cons_of_mem _ (List.mem_append_right _ h)) (by decide +kernel))
set_option maxRecDepth 20000 in
theorem gX11_meltTo_X11_requireStake : GoodIn wsX11_meltTo (wsV RX11 309 RX11 yX11_requireStake wsX11_requireStake) := goodIn_app (goodIn_of _ (by decide +kernel)) ggX11_meltTo_X11_requireStake
set_option maxRecDepth 20000 in
theorem ggX11_meltTo_X9_totalTo : GoodIn wsX11_meltTo wsX9_totalTo := goodIn_r _ [20, 21, 22, 23, 24, 25, 26, 27, 28, 29, 30, 19, 31, 32, 33, 34, 35, 36, 37, 38, 39, 40, 59, 60, 61] (by decide +kernel) (by decide +kernel)
set_option maxRecDepth 20000 in
theorem gX11_meltTo_X9_totalTo : GoodIn wsX11_meltTo (wsV RX11 343 RX9 yX9_totalTo wsX9_totalTo) := goodIn_app (goodIn_of _ (by decide +kernel)) ggX11_meltTo_X9_totalTo
theorem dX11_meltTo_0 : decode cX11_meltTo 0 = .ok (.aload_n 0, 1) := by decide +kernel
theorem dX11_meltTo_1 : decode cX11_meltTo 1 = .ok (.iload_n 1, 1) := by decide +kernel
theorem dX11_meltTo_2 : decode cX11_meltTo 2 = .ok (.invokevirtual 309, 3) := by decide +kernel
theorem dX11_meltTo_5 : decode cX11_meltTo 5 = .ok (.aload_n 0, 1) := by decide +kernel
theorem dX11_meltTo_6 : decode cX11_meltTo 6 = .ok (.getfield 10, 3) := by decide +kernel
theorem dX11_meltTo_9 : decode cX11_meltTo 9 = .ok (.getfield 312, 3) := by decide +kernel
theorem dX11_meltTo_12 : decode cX11_meltTo 12 = .ok (.iload_n 1, 1) := by decide +kernel
theorem dX11_meltTo_13 : decode cX11_meltTo 13 = .ok (.aaload, 1) := by decide +kernel
theorem dX11_meltTo_14 : decode cX11_meltTo 14 = .ok (.iload_n 2, 1) := by decide +kernel
theorem dX11_meltTo_15 : decode cX11_meltTo 15 = .ok (.invokevirtual 343, 3) := by decide +kernel
theorem dX11_meltTo_18 : decode cX11_meltTo 18 = .ok (.ireturn, 1) := by decide +kernel
set_option maxRecDepth 20000 in
theorem ggX11_melt_X11_requireStake : GoodIn wsX11_melt wsX11_requireStake := goodIn_ca (goodIn_r _ [7, 8, 9, 1, 10, 11, 12, 13, 14, 15, 45, 46, 47, 48, 49, 50, 51, 52, 53, 54, 55, 56, 57, 58, 59, 60, 61, 62] (by decide +kernel) (by decide +kernel)) (goodIn_sub (fun _ h => List.mem_cons_of_mem _ (List.mem_append_right _ h)) (by decide +kernel))
set_option maxRecDepth 20000 in
theorem gX11_melt_X11_requireStake : GoodIn wsX11_melt (wsV RX11 309 RX11 yX11_requireStake wsX11_requireStake) := goodIn_app (goodIn_of _ (by decide +kernel)) ggX11_melt_X11_requireStake
set_option maxRecDepth 20000 in
theorem ggX11_melt_X9_meltBetween : GoodIn wsX11_melt wsX9_meltBetween := goodIn_r _ [20, 21, 22, 23, 19, 24, 25, 26, 27, 28, 29, 30, 31, 32, 33, 34, 35, 36, 37, 38, 39, 40, 41, 42, 43, 44, 63, 64, 65] (by decide +kernel) (by decide +kernel)
set_option maxRecDepth 20000 in
theorem gX11_melt_X9_meltBetween : GoodIn wsX11_melt (wsV RX11 346 RX9 yX9_meltBetween wsX9_meltBetween) := goodIn_app (goodIn_of _ (by decide +kernel)) ggX11_melt_X9_meltBetween
theorem dX11_melt_0 : decode cX11_melt 0 = .ok (.aload_n 0, 1) := by decide +kernel
theorem dX11_melt_1 : decode cX11_melt 1 = .ok (.iload_n 1, 1) := by decide +kernel
theorem dX11_melt_2 : decode cX11_melt 2 = .ok (.invokevirtual 309, 3) := by decide +kernel
theorem dX11_melt_5 : decode cX11_melt 5 = .ok (.aload_n 0, 1) := by decide +kernel
theorem dX11_melt_6 : decode cX11_melt 6 = .ok (.getfield 10, 3) := by decide +kernel
theorem dX11_melt_9 : decode cX11_melt 9 = .ok (.getfield 312, 3) := by decide +kernel
theorem dX11_melt_12 : decode cX11_melt 12 = .ok (.iload_n 1, 1) := by decide +kernel
theorem dX11_melt_13 : decode cX11_melt 13 = .ok (.aaload, 1) := by decide +kernel
theorem dX11_melt_14 : decode cX11_melt 14 = .ok (.iload_n 2, 1) := by decide +kernel
theorem dX11_melt_15 : decode cX11_melt 15 = .ok (.iload_n 3, 1) := by decide +kernel
theorem dX11_melt_16 : decode cX11_melt 16 = .ok (.invokevirtual 346, 3) := by decide +kernel
theorem dX11_melt_19 : decode cX11_melt 19 = .ok (.ireturn, 1) := by decide +kernel
set_option maxRecDepth 20000 in
theorem ggX11_meanMelt_X11_averageMelt : GoodIn wsX11_meanMelt wsX11_averageMelt := goodIn_r _ [5, 6, 7, 8, 9, 10, 11, 12, 13, 14, 15, 16, 17, 18, 19, 20, 21, 22, 23, 24, 25, 26, 27, 28, 29, 30, 31, 32, 33, 34, 35, 36, 37, 38, 39, 4, 40, 41, 42, 43, 44, 45, 46, 47, 48, 49, 50, 51, 52, 53, 54, 55, 56, 57, 58, 59, 60, 61] (by decide +kernel) (by decide +kernel)
set_option maxRecDepth 20000 in
theorem gX11_meanMelt_X11_averageMelt : GoodIn wsX11_meanMelt (wsV RX11 349 RX11 yX11_averageMelt wsX11_averageMelt) := goodIn_app (goodIn_of _ (by decide +kernel)) ggX11_meanMelt_X11_averageMelt
theorem dX11_meanMelt_0 : decode cX11_meanMelt 0 = .ok (.aload_n 0, 1) := by decide +kernel
theorem dX11_meanMelt_1 : decode cX11_meanMelt 1 = .ok (.iload_n 1, 1) := by decide +kernel
theorem dX11_meanMelt_2 : decode cX11_meanMelt 2 = .ok (.iload_n 2, 1) := by decide +kernel
theorem dX11_meanMelt_3 : decode cX11_meanMelt 3 = .ok (.invokevirtual 349, 3) := by decide +kernel
theorem dX11_meanMelt_6 : decode cX11_meanMelt 6 = .ok (.ireturn, 1) := by decide +kernel
set_option maxRecDepth 20000 in
theorem ggX11_warmestInterval_X11_requireStake : GoodIn wsX11_warmestInterval wsX11_requireStake := goodIn_ca (goodIn_r _ [8, 9, 10, 1, 11, 12, 13, 14, 15, 16, 37, 38, 39, 40, 41, 42, 43, 44, 45, 46, 47, 48, 49, 50, 51, 52, 53, 54] (by decide +kernel) (by decide +kernel)) (goodIn_sub (fun _ h => List.mem_cons_of_mem _ (List.mem_append_right _ h)) (by decide +kernel))
set_option maxRecDepth 20000 in
theorem gX11_warmestInterval_X11_requireStake : GoodIn wsX11_warmestInterval (wsV RX11 309 RX11 yX11_requireStake wsX11_requireStake) := goodIn_app (goodIn_of _ (by decide +kernel)) ggX11_warmestInterval_X11_requireStake
set_option maxRecDepth 20000 in
theorem ggX11_warmestInterval_X9_meltsFaster : GoodIn wsX11_warmestInterval wsX9_meltsFaster := goodIn_r _ [21, 22, 23, 24, 20, 25, 26, 27, 28, 29, 30, 31, 32, 33, 34, 35, 36, 55, 56, 57] (by decide +kernel) (by decide +kernel)
set_option maxRecDepth 20000 in
theorem gX11_warmestInterval_X9_meltsFaster : GoodIn wsX11_warmestInterval (wsV RX11 352 RX9 yX9_meltsFaster wsX9_meltsFaster) := goodIn_app (goodIn_of _ (by decide +kernel)) ggX11_warmestInterval_X9_meltsFaster
theorem dX11_warmestInterval_0 : decode cX11_warmestInterval 0 = .ok (.aload_n 0, 1) := by decide +kernel
theorem dX11_warmestInterval_1 : decode cX11_warmestInterval 1 = .ok (.iload_n 1, 1) := by decide +kernel
theorem dX11_warmestInterval_2 : decode cX11_warmestInterval 2 = .ok (.invokevirtual 309, 3) := by decide +kernel
theorem dX11_warmestInterval_5 : decode cX11_warmestInterval 5 = .ok (.aload_n 0, 1) := by decide +kernel
theorem dX11_warmestInterval_6 : decode cX11_warmestInterval 6 = .ok (.getfield 10, 3) := by decide +kernel
theorem dX11_warmestInterval_9 : decode cX11_warmestInterval 9 = .ok (.getfield 312, 3) := by decide +kernel
theorem dX11_warmestInterval_12 : decode cX11_warmestInterval 12 = .ok (.iload_n 1, 1) := by decide +kernel
theorem dX11_warmestInterval_13 : decode cX11_warmestInterval 13 = .ok (.aaload, 1) := by decide +kernel
theorem dX11_warmestInterval_14 : decode cX11_warmestInterval 14 = .ok (.astore_n 2, 1) := by decide +kernel
theorem dX11_warmestInterval_15 : decode cX11_warmestInterval 15 = .ok (.iconst (-1), 1) := by decide +kernel
theorem dX11_warmestInterval_16 : decode cX11_warmestInterval 16 = .ok (.istore_n 3, 1) := by decide +kernel
theorem dX11_warmestInterval_17 : decode cX11_warmestInterval 17 = .ok (.iconst 0, 1) := by decide +kernel
theorem dX11_warmestInterval_18 : decode cX11_warmestInterval 18 = .ok (.istore 4, 2) := by decide +kernel
theorem dX11_warmestInterval_20 : decode cX11_warmestInterval 20 = .ok (.iload 4, 2) := by decide +kernel
theorem dX11_warmestInterval_22 : decode cX11_warmestInterval 22 = .ok (.aload_n 2, 1) := by decide +kernel
theorem dX11_warmestInterval_23 : decode cX11_warmestInterval 23 = .ok (.getfield 316, 3) := by decide +kernel
theorem dX11_warmestInterval_26 : decode cX11_warmestInterval 26 = .ok (.iconst 1, 1) := by decide +kernel
theorem dX11_warmestInterval_27 : decode cX11_warmestInterval 27 = .ok (.isub, 1) := by decide +kernel
theorem dX11_warmestInterval_28 : decode cX11_warmestInterval 28 = .ok (.if_icmp .ge 27, 3) := by decide +kernel
theorem dX11_warmestInterval_31 : decode cX11_warmestInterval 31 = .ok (.iload_n 3, 1) := by decide +kernel
theorem dX11_warmestInterval_32 : decode cX11_warmestInterval 32 = .ok (.iconst (-1), 1) := by decide +kernel
theorem dX11_warmestInterval_33 : decode cX11_warmestInterval 33 = .ok (.if_icmp .eq 13, 3) := by decide +kernel
theorem dX11_warmestInterval_36 : decode cX11_warmestInterval 36 = .ok (.aload_n 2, 1) := by decide +kernel
theorem dX11_warmestInterval_37 : decode cX11_warmestInterval 37 = .ok (.iload 4, 2) := by decide +kernel
theorem dX11_warmestInterval_39 : decode cX11_warmestInterval 39 = .ok (.iload_n 3, 1) := by decide +kernel
theorem dX11_warmestInterval_40 : decode cX11_warmestInterval 40 = .ok (.invokevirtual 352, 3) := by decide +kernel
theorem dX11_warmestInterval_43 : decode cX11_warmestInterval 43 = .ok (.ifCond .eq 6, 3) := by decide +kernel
theorem dX11_warmestInterval_46 : decode cX11_warmestInterval 46 = .ok (.iload 4, 2) := by decide +kernel
theorem dX11_warmestInterval_48 : decode cX11_warmestInterval 48 = .ok (.istore_n 3, 1) := by decide +kernel
theorem dX11_warmestInterval_49 : decode cX11_warmestInterval 49 = .ok (.iinc 4 1, 3) := by decide +kernel
theorem dX11_warmestInterval_52 : decode cX11_warmestInterval 52 = .ok (.goto (-32), 3) := by decide +kernel
theorem dX11_warmestInterval_55 : decode cX11_warmestInterval 55 = .ok (.iload_n 3, 1) := by decide +kernel
theorem dX11_warmestInterval_56 : decode cX11_warmestInterval 56 = .ok (.ireturn, 1) := by decide +kernel
set_option maxRecDepth 20000 in
theorem ggX11_undo_X3_takeLatest : GoodIn wsX11_undo wsX3_takeLatest := goodIn_r _ [9, 10, 11, 12, 13, 14, 15, 16, 17, 8, 18, 19, 20, 21, 22, 23, 24, 109, 110, 111] (by decide +kernel) (by decide +kernel)
set_option maxRecDepth 20000 in
theorem gX11_undo_X3_takeLatest : GoodIn wsX11_undo (wsV RX11 356 RX3 yX3_takeLatest wsX3_takeLatest) := goodIn_app (goodIn_of _ (by decide +kernel)) ggX11_undo_X3_takeLatest
set_option maxRecDepth 20000 in
theorem ggX11_undo_X0_revert : GoodIn wsX11_undo wsX0_revert := goodIn_r _ [29, 30, 31, 32, 33, 34, 35, 36, 37, 38, 39, 40, 41, 42, 43, 44, 45, 46, 47, 48, 49, 50, 51, 52, 53, 54, 55, 56, 57, 58, 59, 60, 61, 62, 63, 64, 65, 66, 67, 68, 69, 70, 71, 72, 73, 74, 75, 76, 77, 78, 79, 80, 81, 82, 28, 83, 84, 85, 86, 87, 88, 89, 90, 91, 92, 93, 94, 95, 96, 97, 98, 99, 112, 113, 114, 115, 116, 117, 118, 119, 120, 121, 122, 123, 124, 125, 126, 127, 128, 129, 130, 131, 132, 133, 134] (by decide +kernel) (by decide +kernel)
set_option maxRecDepth 20000 in
theorem gX11_undo_X0_revert : GoodIn wsX11_undo (wsV RX11 360 RX0 yX0_revert wsX0_revert) := goodIn_app (goodIn_of _ (by decide +kernel)) ggX11_undo_X0_revert
theorem dX11_undo_0 : decode cX11_undo 0 = .ok (.aload_n 0, 1) := by decide +kernel
theorem dX11_undo_1 : decode cX11_undo 1 = .ok (.getfield 26, 3) := by decide +kernel
theorem dX11_undo_4 : decode cX11_undo 4 = .ok (.getfield 355, 3) := by decide +kernel
theorem dX11_undo_7 : decode cX11_undo 7 = .ok (.ifCond .ne 5, 3) := by decide +kernel
theorem dX11_undo_10 : decode cX11_undo 10 = .ok (.iconst (-1), 1) := by decide +kernel
theorem dX11_undo_11 : decode cX11_undo 11 = .ok (.ireturn, 1) := by decide +kernel
theorem dX11_undo_12 : decode cX11_undo 12 = .ok (.aload_n 0, 1) := by decide +kernel
theorem dX11_undo_13 : decode cX11_undo 13 = .ok (.getfield 26, 3) := by decide +kernel
theorem dX11_undo_16 : decode cX11_undo 16 = .ok (.invokevirtual 356, 3) := by decide +kernel
theorem dX11_undo_19 : decode cX11_undo 19 = .ok (.aload_n 0, 1) := by decide +kernel
theorem dX11_undo_20 : decode cX11_undo 20 = .ok (.getfield 10, 3) := by decide +kernel
theorem dX11_undo_23 : decode cX11_undo 23 = .ok (.invokevirtual 360, 3) := by decide +kernel
theorem dX11_undo_26 : decode cX11_undo 26 = .ok (.aload_n 0, 1) := by decide +kernel
theorem dX11_undo_27 : decode cX11_undo 27 = .ok (.dup, 1) := by decide +kernel
theorem dX11_undo_28 : decode cX11_undo 28 = .ok (.getfield 59, 3) := by decide +kernel
theorem dX11_undo_31 : decode cX11_undo 31 = .ok (.iconst 1, 1) := by decide +kernel
theorem dX11_undo_32 : decode cX11_undo 32 = .ok (.iadd, 1) := by decide +kernel
theorem dX11_undo_33 : decode cX11_undo 33 = .ok (.putfield 59, 3) := by decide +kernel
theorem dX11_undo_36 : decode cX11_undo 36 = .ok (.aload_n 0, 1) := by decide +kernel
theorem dX11_undo_37 : decode cX11_undo 37 = .ok (.getfield 26, 3) := by decide +kernel
theorem dX11_undo_40 : decode cX11_undo 40 = .ok (.getfield 355, 3) := by decide +kernel
theorem dX11_undo_43 : decode cX11_undo 43 = .ok (.ireturn, 1) := by decide +kernel
theorem dX11_undoCount_0 : decode cX11_undoCount 0 = .ok (.aload_n 0, 1) := by decide +kernel
theorem dX11_undoCount_1 : decode cX11_undoCount 1 = .ok (.getfield 26, 3) := by decide +kernel
theorem dX11_undoCount_4 : decode cX11_undoCount 4 = .ok (.getfield 355, 3) := by decide +kernel
theorem dX11_undoCount_7 : decode cX11_undoCount 7 = .ok (.ireturn, 1) := by decide +kernel
set_option maxRecDepth 20000 in
theorem ggX11_registered_X11_requireFrame : GoodIn wsX11_registered wsX11_requireFrame := goodIn_ca (goodIn_r _ [5, 6, 7, 8, 9, 10, 11, 12, 13, 14, 122, 123, 124, 125, 126, 127, 128, 129, 130, 131, 132, 133, 134, 135, 136, 137, 138, 139] (by decide +kernel) (by decide +kernel)) (goodIn_sub (fun _ h => List.mem_cons_of_mem _ (List.mem_append_right _ h)) (by decide +kernel))
set_option maxRecDepth 20000 in
theorem gX11_registered_X11_requireFrame : GoodIn wsX11_registered (wsV RX11 137 RX11 yX11_requireFrame wsX11_requireFrame) := goodIn_app (goodIn_of _ (by decide +kernel)) ggX11_registered_X11_requireFrame
set_option maxRecDepth 20000 in
theorem ggX11_registered_X11_requirePixel : GoodIn wsX11_registered wsX11_requirePixel := goodIn_ca (goodIn_r _ [18, 6, 7, 8, 19, 20, 21, 12, 22, 23, 24, 122, 123, 124, 125, 126, 127, 128, 129, 130, 131, 132, 133, 134, 135, 136, 137, 138, 139] (by decide +kernel) (by decide +kernel)) (goodIn_sub (fun _ h => List.mem_cons_of_mem _ (List.mem_append_right _ h)) (by decide +kernel))
set_option maxRecDepth 20000 in
theorem gX11_registered_X11_requirePixel : GoodIn wsX11_registered (wsV RX11 143 RX11 yX11_requirePixel wsX11_requirePixel) := goodIn_app (goodIn_of _ (by decide +kernel)) ggX11_registered_X11_requirePixel
set_option maxRecDepth 20000 in
theorem ggX11_registered_X11_currentOrientation : GoodIn wsX11_registered wsX11_currentOrientation := goodIn_r _ [28, 29, 30, 31, 8, 32, 33, 34, 35, 12, 36, 37, 38, 39, 40, 14, 41, 42, 43, 44, 45, 46, 10, 11, 13, 47, 48, 49, 50, 51, 52, 24, 23, 53, 54, 55, 56, 57, 58, 59, 60, 61, 62, 63, 64, 65, 66, 67, 68, 69, 70, 71, 72, 73, 74, 75, 76, 77, 78, 79, 80, 81, 82, 83, 84, 85, 86, 87, 88, 89, 90, 91, 92, 93, 94, 95, 96, 97, 98, 99, 100, 101, 102, 103, 122, 123, 124, 125, 126, 127, 128, 129, 130, 140, 141, 142, 143, 144, 145, 131, 132, 133, 134, 135, 136, 137, 138, 139, 146, 147, 148, 149, 150, 151] (by decide +kernel) (by decide +kernel)
set_option maxRecDepth 20000 in
theorem gX11_registered_X11_currentOrientation : GoodIn wsX11_registered (wsV RX11 174 RX11 yX11_currentOrientation wsX11_currentOrientation) := goodIn_app (goodIn_of _ (by decide +kernel)) ggX11_registered_X11_currentOrientation
set_option maxRecDepth 20000 in
theorem ggX11_registered_X11_registeredAt : GoodIn wsX11_registered wsX11_registeredAt := goodIn_r _ [107, 8, 108, 109, 110, 59, 111, 67, 100, 101, 102, 103, 62, 112, 113, 114, 115, 68, 116, 19, 20, 21, 12, 22, 23, 24, 117, 118, 119, 120, 51, 52, 46, 10, 11, 13, 14, 121, 122, 123, 124, 125, 126, 127, 128, 129, 130, 140, 141, 142, 143, 144, 145, 131, 132, 133, 134, 135, 136, 137, 138, 139, 146, 147] (by decide +kernel) (by decide +kernel)
set_option maxRecDepth 20000 in
theorem gX11_registered_X11_registeredAt : GoodIn wsX11_registered (wsV RX11 364 RX11 yX11_registeredAt wsX11_registeredAt) := goodIn_app (goodIn_of _ (by decide +kernel)) ggX11_registered_X11_registeredAt
theorem dX11_registered_0 : decode cX11_registered 0 = .ok (.aload_n 0, 1) := by decide +kernel
theorem dX11_registered_1 : decode cX11_registered 1 = .ok (.iload_n 1, 1) := by decide +kernel
theorem dX11_registered_2 : decode cX11_registered 2 = .ok (.invokevirtual 137, 3) := by decide +kernel
theorem dX11_registered_5 : decode cX11_registered 5 = .ok (.aload_n 0, 1) := by decide +kernel
theorem dX11_registered_6 : decode cX11_registered 6 = .ok (.iload_n 2, 1) := by decide +kernel
theorem dX11_registered_7 : decode cX11_registered 7 = .ok (.iload_n 3, 1) := by decide +kernel
theorem dX11_registered_8 : decode cX11_registered 8 = .ok (.invokevirtual 143, 3) := by decide +kernel
theorem dX11_registered_11 : decode cX11_registered 11 = .ok (.aload_n 0, 1) := by decide +kernel
theorem dX11_registered_12 : decode cX11_registered 12 = .ok (.aload_n 0, 1) := by decide +kernel
theorem dX11_registered_13 : decode cX11_registered 13 = .ok (.invokevirtual 174, 3) := by decide +kernel
theorem dX11_registered_16 : decode cX11_registered 16 = .ok (.iload_n 1, 1) := by decide +kernel
theorem dX11_registered_17 : decode cX11_registered 17 = .ok (.iload_n 2, 1) := by decide +kernel
theorem dX11_registered_18 : decode cX11_registered 18 = .ok (.iload_n 3, 1) := by decide +kernel
theorem dX11_registered_19 : decode cX11_registered 19 = .ok (.invokevirtual 364, 3) := by decide +kernel
theorem dX11_registered_22 : decode cX11_registered 22 = .ok (.ireturn, 1) := by decide +kernel
set_option maxRecDepth 20000 in
theorem ggX11_changedPixels_X11_requireFrame : GoodIn wsX11_changedPixels wsX11_requireFrame := goodIn_ca (goodIn_r _ [12, 13, 14, 1, 15, 16, 17, 18, 19, 20, 124, 125, 126, 127, 128, 129, 130, 131, 132, 133, 134, 135, 136, 137, 138, 139, 140, 141] (by decide +kernel) (by decide +kernel)) (goodIn_sub (fun _ h => List.mem_cons_of_mem _ (List.mem_append_right _ h)) (by decide +kernel))
set_option maxRecDepth 20000 in
theorem gX11_changedPixels_X11_requireFrame : GoodIn wsX11_changedPixels (wsV RX11 137 RX11 yX11_requireFrame wsX11_requireFrame) := goodIn_app (goodIn_of _ (by decide +kernel)) ggX11_changedPixels_X11_requireFrame
set_option maxRecDepth 20000 in
theorem ggX11_changedPixels_X11_isBetween : GoodIn wsX11_changedPixels wsX11_isBetween := goodIn_r _ [23] (by decide +kernel) (by decide +kernel)
set_option maxRecDepth 20000 in
theorem gX11_changedPixels_X11_isBetween : GoodIn wsX11_changedPixels (va_wsS RX11 127 yX11_isBetween wsX11_isBetween) := goodIn_app (goodIn_of _ (by decide +kernel)) ggX11_changedPixels_X11_isBetween
set_option maxRecDepth 20000 in
theorem ggX11_changedPixels_X11_currentOrientation : GoodIn wsX11_changedPixels wsX11_currentOrientation := goodIn_r _ [27, 28, 29, 30, 1, 31, 32, 33, 34, 18, 35, 36, 37, 6, 38, 20, 39, 40, 41, 42, 43, 44, 16, 17, 19, 45, 46, 47, 48, 49, 50, 51, 52, 53, 54, 55, 56, 57, 58, 59, 60, 61, 62, 63, 64, 65, 66, 67, 68, 69, 70, 71, 72, 73, 74, 75, 76, 77, 78, 79, 80, 81, 82, 83, 84, 85, 86, 87, 88, 89, 90, 91, 92, 5, 7, 93, 94, 95, 96, 97, 98, 99, 100, 101, 124, 125, 126, 127, 128, 129, 130, 131, 132, 142, 143, 144, 145, 146, 147, 133, 134, 135, 136, 137, 138, 139, 140, 141, 148, 149, 150, 151, 152, 153] (by decide +kernel) (by decide +kernel)
set_option maxRecDepth 20000 in
theorem gX11_changedPixels_X11_currentOrientation : GoodIn wsX11_changedPixels (wsV RX11 174 RX11 yX11_currentOrientation wsX11_currentOrientation) := goodIn_app (goodIn_of _ (by decide +kernel)) ggX11_changedPixels_X11_currentOrientation
set_option maxRecDepth 20000 in
theorem ggX11_changedPixels_X6_covers : GoodIn wsX11_changedPixels wsX6_covers := goodIn_r _ [101, 62, 142, 143, 144, 145, 146, 147] (by decide +kernel) (by decide +kernel)
set_option maxRecDepth 20000 in
theorem gX11_changedPixels_X6_covers : GoodIn wsX11_changedPixels (wsV RX11 178 RX6 yX6_covers wsX6_covers) := goodIn_app (goodIn_of _ (by decide +kernel)) ggX11_changedPixels_X6_covers
set_option maxRecDepth 20000 in
theorem ggX11_changedPixels_X11_registeredAt : GoodIn wsX11_changedPixels wsX11_registeredAt := goodIn_r _ [106, 1, 107, 108, 109, 59, 110, 67, 98, 99, 100, 101, 62, 111, 112, 113, 114, 68, 102, 115, 116, 117, 18, 118, 52, 51, 119, 120, 121, 122, 49, 50, 44, 16, 17, 19, 20, 123, 124, 125, 126, 127, 128, 129, 130, 131, 132, 142, 143, 144, 145, 146, 147, 133, 134, 135, 136, 137, 138, 139, 140, 141, 148, 149] (by decide +kernel) (by decide +kernel)
set_option maxRecDepth 20000 in
theorem gX11_changedPixels_X11_registeredAt : GoodIn wsX11_changedPixels (wsV RX11 364 RX11 yX11_registeredAt wsX11_registeredAt) := goodIn_app (goodIn_of _ (by decide +kernel)) ggX11_changedPixels_X11_registeredAt
theorem dX11_changedPixels_0 : decode cX11_changedPixels 0 = .ok (.aload_n 0, 1) := by decide +kernel
theorem dX11_changedPixels_1 : decode cX11_changedPixels 1 = .ok (.iload_n 1, 1) := by decide +kernel
theorem dX11_changedPixels_2 : decode cX11_changedPixels 2 = .ok (.invokevirtual 137, 3) := by decide +kernel
theorem dX11_changedPixels_5 : decode cX11_changedPixels 5 = .ok (.aload_n 0, 1) := by decide +kernel
theorem dX11_changedPixels_6 : decode cX11_changedPixels 6 = .ok (.iload_n 2, 1) := by decide +kernel
theorem dX11_changedPixels_7 : decode cX11_changedPixels 7 = .ok (.invokevirtual 137, 3) := by decide +kernel
theorem dX11_changedPixels_10 : decode cX11_changedPixels 10 = .ok (.iload_n 3, 1) := by decide +kernel
theorem dX11_changedPixels_11 : decode cX11_changedPixels 11 = .ok (.iconst 1, 1) := by decide +kernel
theorem dX11_changedPixels_12 : decode cX11_changedPixels 12 = .ok (.bipush 9, 2) := by decide +kernel
theorem dX11_changedPixels_14 : decode cX11_changedPixels 14 = .ok (.invokestatic 127, 3) := by decide +kernel
theorem dX11_changedPixels_17 : decode cX11_changedPixels 17 = .ok (.ifCond .ne 6, 3) := by decide +kernel
theorem dX11_changedPixels_20 : decode cX11_changedPixels 20 = .ok (.bipush (-2), 2) := by decide +kernel
theorem dX11_changedPixels_22 : decode cX11_changedPixels 22 = .ok (.ireturn, 1) := by decide +kernel
theorem dX11_changedPixels_23 : decode cX11_changedPixels 23 = .ok (.aload_n 0, 1) := by decide +kernel
theorem dX11_changedPixels_24 : decode cX11_changedPixels 24 = .ok (.invokevirtual 174, 3) := by decide +kernel
theorem dX11_changedPixels_27 : decode cX11_changedPixels 27 = .ok (.astore 4, 2) := by decide +kernel
theorem dX11_changedPixels_29 : decode cX11_changedPixels 29 = .ok (.aload 4, 2) := by decide +kernel
theorem dX11_changedPixels_31 : decode cX11_changedPixels 31 = .ok (.iload_n 1, 1) := by decide +kernel
theorem dX11_changedPixels_32 : decode cX11_changedPixels 32 = .ok (.invokevirtual 178, 3) := by decide +kernel
theorem dX11_changedPixels_35 : decode cX11_changedPixels 35 = .ok (.ifCond .eq 12, 3) := by decide +kernel
theorem dX11_changedPixels_38 : decode cX11_changedPixels 38 = .ok (.aload 4, 2) := by decide +kernel
theorem dX11_changedPixels_40 : decode cX11_changedPixels 40 = .ok (.iload_n 2, 1) := by decide +kernel
theorem dX11_changedPixels_41 : decode cX11_changedPixels 41 = .ok (.invokevirtual 178, 3) := by decide +kernel
theorem dX11_changedPixels_44 : decode cX11_changedPixels 44 = .ok (.ifCond .ne 5, 3) := by decide +kernel
theorem dX11_changedPixels_47 : decode cX11_changedPixels 47 = .ok (.iconst (-1), 1) := by decide +kernel
theorem dX11_changedPixels_48 : decode cX11_changedPixels 48 = .ok (.ireturn, 1) := by decide +kernel
theorem dX11_changedPixels_49 : decode cX11_changedPixels 49 = .ok (.iconst 0, 1) := by decide +kernel
theorem dX11_changedPixels_50 : decode cX11_changedPixels 50 = .ok (.istore 5, 2) := by decide +kernel
theorem dX11_changedPixels_52 : decode cX11_changedPixels 52 = .ok (.iconst 0, 1) := by decide +kernel
theorem dX11_changedPixels_53 : decode cX11_changedPixels 53 = .ok (.istore 6, 2) := by decide +kernel
theorem dX11_changedPixels_55 : decode cX11_changedPixels 55 = .ok (.iload 6, 2) := by decide +kernel
theorem dX11_changedPixels_57 : decode cX11_changedPixels 57 = .ok (.aload_n 0, 1) := by decide +kernel
theorem dX11_changedPixels_58 : decode cX11_changedPixels 58 = .ok (.getfield 10, 3) := by decide +kernel
theorem dX11_changedPixels_61 : decode cX11_changedPixels 61 = .ok (.getfield 92, 3) := by decide +kernel
theorem dX11_changedPixels_64 : decode cX11_changedPixels 64 = .ok (.if_icmp .ge 83, 3) := by decide +kernel
theorem dX11_changedPixels_67 : decode cX11_changedPixels 67 = .ok (.iconst 0, 1) := by decide +kernel
theorem dX11_changedPixels_68 : decode cX11_changedPixels 68 = .ok (.istore 7, 2) := by decide +kernel
theorem dX11_changedPixels_70 : decode cX11_changedPixels 70 = .ok (.iload 7, 2) := by decide +kernel
theorem dX11_changedPixels_72 : decode cX11_changedPixels 72 = .ok (.aload_n 0, 1) := by decide +kernel
theorem dX11_changedPixels_73 : decode cX11_changedPixels 73 = .ok (.getfield 10, 3) := by decide +kernel
theorem dX11_changedPixels_76 : decode cX11_changedPixels 76 = .ok (.getfield 89, 3) := by decide +kernel
theorem dX11_changedPixels_79 : decode cX11_changedPixels 79 = .ok (.if_icmp .ge 62, 3) := by decide +kernel
theorem dX11_changedPixels_82 : decode cX11_changedPixels 82 = .ok (.aload_n 0, 1) := by decide +kernel
theorem dX11_changedPixels_83 : decode cX11_changedPixels 83 = .ok (.aload 4, 2) := by decide +kernel
theorem dX11_changedPixels_85 : decode cX11_changedPixels 85 = .ok (.iload_n 1, 1) := by decide +kernel
theorem dX11_changedPixels_86 : decode cX11_changedPixels 86 = .ok (.iload 7, 2) := by decide +kernel
theorem dX11_changedPixels_88 : decode cX11_changedPixels 88 = .ok (.iload 6, 2) := by decide +kernel
theorem dX11_changedPixels_90 : decode cX11_changedPixels 90 = .ok (.invokevirtual 364, 3) := by decide +kernel
theorem dX11_changedPixels_93 : decode cX11_changedPixels 93 = .ok (.istore 8, 2) := by decide +kernel
theorem dX11_changedPixels_95 : decode cX11_changedPixels 95 = .ok (.aload_n 0, 1) := by decide +kernel
theorem dX11_changedPixels_96 : decode cX11_changedPixels 96 = .ok (.aload 4, 2) := by decide +kernel
theorem dX11_changedPixels_98 : decode cX11_changedPixels 98 = .ok (.iload_n 2, 1) := by decide +kernel
theorem dX11_changedPixels_99 : decode cX11_changedPixels 99 = .ok (.iload 7, 2) := by decide +kernel
theorem dX11_changedPixels_101 : decode cX11_changedPixels 101 = .ok (.iload 6, 2) := by decide +kernel
theorem dX11_changedPixels_103 : decode cX11_changedPixels 103 = .ok (.invokevirtual 364, 3) := by decide +kernel
theorem dX11_changedPixels_106 : decode cX11_changedPixels 106 = .ok (.istore 9, 2) := by decide +kernel
theorem dX11_changedPixels_108 : decode cX11_changedPixels 108 = .ok (.iload 8, 2) := by decide +kernel
theorem dX11_changedPixels_110 : decode cX11_changedPixels 110 = .ok (.iconst (-1), 1) := by decide +kernel
theorem dX11_changedPixels_111 : decode cX11_changedPixels 111 = .ok (.if_icmp .eq 24, 3) := by decide +kernel
theorem dX11_changedPixels_114 : decode cX11_changedPixels 114 = .ok (.iload 9, 2) := by decide +kernel
theorem dX11_changedPixels_116 : decode cX11_changedPixels 116 = .ok (.iconst (-1), 1) := by decide +kernel
theorem dX11_changedPixels_117 : decode cX11_changedPixels 117 = .ok (.if_icmp .eq 18, 3) := by decide +kernel
theorem dX11_changedPixels_120 : decode cX11_changedPixels 120 = .ok (.iload 8, 2) := by decide +kernel
theorem dX11_changedPixels_122 : decode cX11_changedPixels 122 = .ok (.iload 9, 2) := by decide +kernel
theorem dX11_changedPixels_124 : decode cX11_changedPixels 124 = .ok (.isub, 1) := by decide +kernel
theorem dX11_changedPixels_125 : decode cX11_changedPixels 125 = .ok (.invokestatic 368, 3) := by decide +kernel
theorem dX11_changedPixels_128 : decode cX11_changedPixels 128 = .ok (.iload_n 3, 1) := by decide +kernel
theorem dX11_changedPixels_129 : decode cX11_changedPixels 129 = .ok (.if_icmp .lt 6, 3) := by decide +kernel
theorem dX11_changedPixels_132 : decode cX11_changedPixels 132 = .ok (.iinc 5 1, 3) := by decide +kernel
theorem dX11_changedPixels_135 : decode cX11_changedPixels 135 = .ok (.iinc 7 1, 3) := by decide +kernel
theorem dX11_changedPixels_138 : decode cX11_changedPixels 138 = .ok (.goto (-68), 3) := by decide +kernel
theorem dX11_changedPixels_141 : decode cX11_changedPixels 141 = .ok (.iinc 6 1, 3) := by decide +kernel
theorem dX11_changedPixels_144 : decode cX11_changedPixels 144 = .ok (.goto (-89), 3) := by decide +kernel
theorem dX11_changedPixels_147 : decode cX11_changedPixels 147 = .ok (.iload 5, 2) := by decide +kernel
theorem dX11_changedPixels_149 : decode cX11_changedPixels 149 = .ok (.ireturn, 1) := by decide +kernel
set_option maxRecDepth 20000 in
theorem ggX11_snowLine_X11_requireFrame : GoodIn wsX11_snowLine wsX11_requireFrame := goodIn_ca (goodIn_r _ [8, 9, 10, 1, 11, 12, 13, 14, 15, 16, 33, 34, 35, 36, 37, 38, 39, 40, 41, 42, 43, 44, 45, 46, 47, 48, 49, 50] (by decide +kernel) (by decide +kernel)) (goodIn_sub (fun _ h => List.mem_cons_of_mem _ (List.mem_append_right _ h)) (by decide +kernel))
set_option maxRecDepth 20000 in
theorem gX11_snowLine_X11_requireFrame : GoodIn wsX11_snowLine (wsV RX11 137 RX11 yX11_requireFrame wsX11_requireFrame) := goodIn_app (goodIn_of _ (by decide +kernel)) ggX11_snowLine_X11_requireFrame
set_option maxRecDepth 20000 in
theorem ggX11_snowLine_X11_isBetween : GoodIn wsX11_snowLine wsX11_isBetween := goodIn_r _ [19] (by decide +kernel) (by decide +kernel)
set_option maxRecDepth 20000 in
theorem gX11_snowLine_X11_isBetween : GoodIn wsX11_snowLine (va_wsS RX11 127 yX11_isBetween wsX11_isBetween) := goodIn_app (goodIn_of _ (by decide +kernel)) ggX11_snowLine_X11_isBetween
set_option maxRecDepth 20000 in
theorem ggX11_snowLine_X8_brightnessAt : GoodIn wsX11_snowLine wsX8_brightnessAt := goodIn_r _ [23, 24, 25, 26, 12, 13, 14, 15, 16, 27, 28, 29, 30, 31, 32, 42, 43, 44, 45, 46, 47, 48, 49, 50, 51, 52] (by decide +kernel) (by decide +kernel)
set_option maxRecDepth 20000 in
theorem gX11_snowLine_X8_brightnessAt : GoodIn wsX11_snowLine (wsV RX11 147 RX8 yX8_brightnessAt wsX8_brightnessAt) := goodIn_app (goodIn_of _ (by decide +kernel)) ggX11_snowLine_X8_brightnessAt
theorem dX11_snowLine_0 : decode cX11_snowLine 0 = .ok (.aload_n 0, 1) := by decide +kernel
theorem dX11_snowLine_1 : decode cX11_snowLine 1 = .ok (.iload_n 1, 1) := by decide +kernel
theorem dX11_snowLine_2 : decode cX11_snowLine 2 = .ok (.invokevirtual 137, 3) := by decide +kernel
theorem dX11_snowLine_5 : decode cX11_snowLine 5 = .ok (.iload_n 2, 1) := by decide +kernel
theorem dX11_snowLine_6 : decode cX11_snowLine 6 = .ok (.iconst 0, 1) := by decide +kernel
theorem dX11_snowLine_7 : decode cX11_snowLine 7 = .ok (.bipush 9, 2) := by decide +kernel
theorem dX11_snowLine_9 : decode cX11_snowLine 9 = .ok (.invokestatic 127, 3) := by decide +kernel
theorem dX11_snowLine_12 : decode cX11_snowLine 12 = .ok (.ifCond .ne 6, 3) := by decide +kernel
theorem dX11_snowLine_15 : decode cX11_snowLine 15 = .ok (.bipush (-2), 2) := by decide +kernel
theorem dX11_snowLine_17 : decode cX11_snowLine 17 = .ok (.ireturn, 1) := by decide +kernel
theorem dX11_snowLine_18 : decode cX11_snowLine 18 = .ok (.iconst 0, 1) := by decide +kernel
theorem dX11_snowLine_19 : decode cX11_snowLine 19 = .ok (.istore_n 3, 1) := by decide +kernel
theorem dX11_snowLine_20 : decode cX11_snowLine 20 = .ok (.iload_n 3, 1) := by decide +kernel
theorem dX11_snowLine_21 : decode cX11_snowLine 21 = .ok (.aload_n 0, 1) := by decide +kernel
theorem dX11_snowLine_22 : decode cX11_snowLine 22 = .ok (.getfield 10, 3) := by decide +kernel
theorem dX11_snowLine_25 : decode cX11_snowLine 25 = .ok (.getfield 92, 3) := by decide +kernel
theorem dX11_snowLine_28 : decode cX11_snowLine 28 = .ok (.if_icmp .ge 67, 3) := by decide +kernel
theorem dX11_snowLine_31 : decode cX11_snowLine 31 = .ok (.iconst 0, 1) := by decide +kernel
theorem dX11_snowLine_32 : decode cX11_snowLine 32 = .ok (.istore 4, 2) := by decide +kernel
theorem dX11_snowLine_34 : decode cX11_snowLine 34 = .ok (.iconst 0, 1) := by decide +kernel
theorem dX11_snowLine_35 : decode cX11_snowLine 35 = .ok (.istore 5, 2) := by decide +kernel
theorem dX11_snowLine_37 : decode cX11_snowLine 37 = .ok (.iload 5, 2) := by decide +kernel
theorem dX11_snowLine_39 : decode cX11_snowLine 39 = .ok (.aload_n 0, 1) := by decide +kernel
theorem dX11_snowLine_40 : decode cX11_snowLine 40 = .ok (.getfield 10, 3) := by decide +kernel
theorem dX11_snowLine_43 : decode cX11_snowLine 43 = .ok (.getfield 89, 3) := by decide +kernel
theorem dX11_snowLine_46 : decode cX11_snowLine 46 = .ok (.if_icmp .ge 27, 3) := by decide +kernel
theorem dX11_snowLine_49 : decode cX11_snowLine 49 = .ok (.aload_n 0, 1) := by decide +kernel
theorem dX11_snowLine_50 : decode cX11_snowLine 50 = .ok (.getfield 10, 3) := by decide +kernel
theorem dX11_snowLine_53 : decode cX11_snowLine 53 = .ok (.iload_n 1, 1) := by decide +kernel
theorem dX11_snowLine_54 : decode cX11_snowLine 54 = .ok (.iload 5, 2) := by decide +kernel
theorem dX11_snowLine_56 : decode cX11_snowLine 56 = .ok (.iload_n 3, 1) := by decide +kernel
theorem dX11_snowLine_57 : decode cX11_snowLine 57 = .ok (.invokevirtual 147, 3) := by decide +kernel
theorem dX11_snowLine_60 : decode cX11_snowLine 60 = .ok (.iload_n 2, 1) := by decide +kernel
theorem dX11_snowLine_61 : decode cX11_snowLine 61 = .ok (.if_icmp .lt 6, 3) := by decide +kernel
theorem dX11_snowLine_64 : decode cX11_snowLine 64 = .ok (.iinc 4 1, 3) := by decide +kernel
theorem dX11_snowLine_67 : decode cX11_snowLine 67 = .ok (.iinc 5 1, 3) := by decide +kernel
theorem dX11_snowLine_70 : decode cX11_snowLine 70 = .ok (.goto (-33), 3) := by decide +kernel
theorem dX11_snowLine_73 : decode cX11_snowLine 73 = .ok (.iconst 2, 1) := by decide +kernel
theorem dX11_snowLine_74 : decode cX11_snowLine 74 = .ok (.iload 4, 2) := by decide +kernel
theorem dX11_snowLine_76 : decode cX11_snowLine 76 = .ok (.imul, 1) := by decide +kernel
theorem dX11_snowLine_77 : decode cX11_snowLine 77 = .ok (.aload_n 0, 1) := by decide +kernel
theorem dX11_snowLine_78 : decode cX11_snowLine 78 = .ok (.getfield 10, 3) := by decide +kernel
theorem dX11_snowLine_81 : decode cX11_snowLine 81 = .ok (.getfield 89, 3) := by decide +kernel
theorem dX11_snowLine_84 : decode cX11_snowLine 84 = .ok (.if_icmp .ge 5, 3) := by decide +kernel
theorem dX11_snowLine_87 : decode cX11_snowLine 87 = .ok (.iload_n 3, 1) := by decide +kernel
theorem dX11_snowLine_88 : decode cX11_snowLine 88 = .ok (.ireturn, 1) := by decide +kernel
theorem dX11_snowLine_89 : decode cX11_snowLine 89 = .ok (.iinc 3 1, 3) := by decide +kernel
theorem dX11_snowLine_92 : decode cX11_snowLine 92 = .ok (.goto (-72), 3) := by decide +kernel
theorem dX11_snowLine_95 : decode cX11_snowLine 95 = .ok (.aload_n 0, 1) := by decide +kernel
theorem dX11_snowLine_96 : decode cX11_snowLine 96 = .ok (.getfield 10, 3) := by decide +kernel
theorem dX11_snowLine_99 : decode cX11_snowLine 99 = .ok (.getfield 92, 3) := by decide +kernel
theorem dX11_snowLine_102 : decode cX11_snowLine 102 = .ok (.ireturn, 1) := by decide +kernel
set_option maxRecDepth 20000 in
theorem ggX11_strain_X11_requireFeature : GoodIn wsX11_strain wsX11_requireFeature := goodIn_ca (goodIn_r _ [8, 9, 10, 1, 11, 12, 13, 14, 15, 16, 17, 208, 209, 210, 211, 212, 213, 214, 215, 216, 217, 218, 219, 220, 221, 222, 223, 224, 225, 226, 227, 228, 229] (by decide +kernel) (by decide +kernel)) (goodIn_sub (fun _ h => List.mem_cons_of_mem _ (List.mem_append_right _ h)) (by decide +kernel))
set_option maxRecDepth 20000 in
theorem gX11_strain_X11_requireFeature : GoodIn wsX11_strain (wsV RX11 216 RX11 yX11_requireFeature wsX11_requireFeature) := goodIn_app (goodIn_of _ (by decide +kernel)) ggX11_strain_X11_requireFeature
set_option maxRecDepth 20000 in
theorem ggX11_strain_X11_trackOf : GoodIn wsX11_strain wsX11_trackOf := goodIn_r _ [21, 22, 23, 24, 1, 25, 26, 27, 28, 29, 7, 30, 31, 32, 2, 33, 34, 35, 36, 37, 38, 39, 40, 41, 42, 43, 44, 45, 46, 47, 48, 49, 50, 51, 52, 53, 54, 55, 56, 57, 58, 59, 60, 61, 62, 63, 64, 65, 66, 67, 68, 69, 70, 71, 72, 73, 74, 75, 76, 77, 78, 79, 80, 81, 82, 83, 84, 85, 86, 87, 88, 89, 90, 91, 92, 93, 94, 95, 96, 97, 98, 99, 100, 101, 102, 103, 104, 105, 106, 107, 108, 109, 110, 111, 112, 113, 114, 115, 116, 117, 118, 119, 120, 121, 122, 123, 124, 13, 14, 15, 16, 17, 125, 126, 127, 128, 129, 130, 131, 132, 133, 134, 135, 136, 137, 138, 139, 140, 141, 142, 143, 144, 145, 146, 147, 148, 149, 150, 151, 152, 153, 154, 155, 156, 157, 158, 159, 160, 161, 162, 163, 164, 165, 166, 167, 168, 169, 170, 171, 172, 173, 174, 175, 176, 177, 178, 179, 180, 181, 182, 183, 184, 185, 186, 187, 188, 189, 190, 191, 208, 209, 210, 211, 212, 213, 214, 215, 216, 230, 231, 232, 233, 234, 235, 236, 237, 238, 239, 217, 218, 219, 220, 221, 222, 223, 224, 225, 240, 241, 242, 243, 244, 245, 246, 247, 226, 227, 228, 229, 248, 249, 250, 251, 252, 253] (by decide +kernel) (by decide +kernel)
set_option maxRecDepth 20000 in
theorem gX11_strain_X11_trackOf : GoodIn wsX11_strain (wsV RX11 219 RX11 yX11_trackOf wsX11_trackOf) := goodIn_app (goodIn_of _ (by decide +kernel)) ggX11_strain_X11_trackOf
set_option maxRecDepth 20000 in
theorem ggX11_strain_X10_isTrackedIn : GoodIn wsX11_strain wsX10_isTrackedIn := goodIn_r _ [195, 196, 197, 198, 114, 199, 116, 129, 230, 231, 232, 233, 234, 235, 236, 237, 238, 239] (by decide +kernel) (by decide +kernel)
set_option maxRecDepth 20000 in
theorem gX11_strain_X10_isTrackedIn : GoodIn wsX11_strain (wsV RX11 371 RX10 yX10_isTrackedIn wsX10_isTrackedIn) := goodIn_app (goodIn_of _ (by decide +kernel)) ggX11_strain_X10_isTrackedIn
set_option maxRecDepth 20000 in
theorem ggX11_strain_X10_distanceTo : GoodIn wsX11_strain wsX10_distanceTo := goodIn_r _ [203, 133, 134, 204, 196, 197, 198, 114, 199, 116, 129, 205, 7, 206, 207, 230, 231, 232, 233, 234, 235, 236, 237, 238, 239] (by decide +kernel) (by decide +kernel)
set_option maxRecDepth 20000 in
theorem gX11_strain_X10_distanceTo : GoodIn wsX11_strain (wsV RX11 374 RX10 yX10_distanceTo wsX10_distanceTo) := goodIn_app (goodIn_of _ (by decide +kernel)) ggX11_strain_X10_distanceTo
theorem dX11_strain_0 : decode cX11_strain 0 = .ok (.aload_n 0, 1) := by decide +kernel
theorem dX11_strain_1 : decode cX11_strain 1 = .ok (.iload_n 1, 1) := by decide +kernel
theorem dX11_strain_2 : decode cX11_strain 2 = .ok (.invokevirtual 216, 3) := by decide +kernel
theorem dX11_strain_5 : decode cX11_strain 5 = .ok (.aload_n 0, 1) := by decide +kernel
theorem dX11_strain_6 : decode cX11_strain 6 = .ok (.iload_n 2, 1) := by decide +kernel
theorem dX11_strain_7 : decode cX11_strain 7 = .ok (.invokevirtual 216, 3) := by decide +kernel
theorem dX11_strain_10 : decode cX11_strain 10 = .ok (.aload_n 0, 1) := by decide +kernel
theorem dX11_strain_11 : decode cX11_strain 11 = .ok (.iload_n 1, 1) := by decide +kernel
theorem dX11_strain_12 : decode cX11_strain 12 = .ok (.invokevirtual 219, 3) := by decide +kernel
theorem dX11_strain_15 : decode cX11_strain 15 = .ok (.astore_n 3, 1) := by decide +kernel
theorem dX11_strain_16 : decode cX11_strain 16 = .ok (.aload_n 0, 1) := by decide +kernel
theorem dX11_strain_17 : decode cX11_strain 17 = .ok (.iload_n 2, 1) := by decide +kernel
theorem dX11_strain_18 : decode cX11_strain 18 = .ok (.invokevirtual 219, 3) := by decide +kernel
theorem dX11_strain_21 : decode cX11_strain 21 = .ok (.astore 4, 2) := by decide +kernel
theorem dX11_strain_23 : decode cX11_strain 23 = .ok (.iconst 0, 1) := by decide +kernel
theorem dX11_strain_24 : decode cX11_strain 24 = .ok (.istore 5, 2) := by decide +kernel
theorem dX11_strain_26 : decode cX11_strain 26 = .ok (.iconst 0, 1) := by decide +kernel
theorem dX11_strain_27 : decode cX11_strain 27 = .ok (.istore 6, 2) := by decide +kernel
theorem dX11_strain_29 : decode cX11_strain 29 = .ok (.iconst 0, 1) := by decide +kernel
theorem dX11_strain_30 : decode cX11_strain 30 = .ok (.istore 7, 2) := by decide +kernel
theorem dX11_strain_32 : decode cX11_strain 32 = .ok (.iconst 0, 1) := by decide +kernel
theorem dX11_strain_33 : decode cX11_strain 33 = .ok (.istore 8, 2) := by decide +kernel
theorem dX11_strain_35 : decode cX11_strain 35 = .ok (.iload 8, 2) := by decide +kernel
theorem dX11_strain_37 : decode cX11_strain 37 = .ok (.aload_n 0, 1) := by decide +kernel
theorem dX11_strain_38 : decode cX11_strain 38 = .ok (.getfield 10, 3) := by decide +kernel
theorem dX11_strain_41 : decode cX11_strain 41 = .ok (.getfield 95, 3) := by decide +kernel
theorem dX11_strain_44 : decode cX11_strain 44 = .ok (.if_icmp .ge 55, 3) := by decide +kernel
theorem dX11_strain_47 : decode cX11_strain 47 = .ok (.aload_n 3, 1) := by decide +kernel
theorem dX11_strain_48 : decode cX11_strain 48 = .ok (.iload 8, 2) := by decide +kernel
theorem dX11_strain_50 : decode cX11_strain 50 = .ok (.invokevirtual 371, 3) := by decide +kernel
theorem dX11_strain_53 : decode cX11_strain 53 = .ok (.ifCond .eq 40, 3) := by decide +kernel
theorem dX11_strain_56 : decode cX11_strain 56 = .ok (.aload 4, 2) := by decide +kernel
theorem dX11_strain_58 : decode cX11_strain 58 = .ok (.iload 8, 2) := by decide +kernel
theorem dX11_strain_60 : decode cX11_strain 60 = .ok (.invokevirtual 371, 3) := by decide +kernel
theorem dX11_strain_63 : decode cX11_strain 63 = .ok (.ifCond .eq 30, 3) := by decide +kernel
theorem dX11_strain_66 : decode cX11_strain 66 = .ok (.aload_n 3, 1) := by decide +kernel
theorem dX11_strain_67 : decode cX11_strain 67 = .ok (.aload 4, 2) := by decide +kernel
theorem dX11_strain_69 : decode cX11_strain 69 = .ok (.iload 8, 2) := by decide +kernel
theorem dX11_strain_71 : decode cX11_strain 71 = .ok (.invokevirtual 374, 3) := by decide +kernel
theorem dX11_strain_74 : decode cX11_strain 74 = .ok (.istore 7, 2) := by decide +kernel
theorem dX11_strain_76 : decode cX11_strain 76 = .ok (.iload 5, 2) := by decide +kernel
theorem dX11_strain_78 : decode cX11_strain 78 = .ok (.ifCond .ne 8, 3) := by decide +kernel
theorem dX11_strain_81 : decode cX11_strain 81 = .ok (.iload 7, 2) := by decide +kernel
theorem dX11_strain_83 : decode cX11_strain 83 = .ok (.goto 5, 3) := by decide +kernel
theorem dX11_strain_86 : decode cX11_strain 86 = .ok (.iload 6, 2) := by decide +kernel
theorem dX11_strain_88 : decode cX11_strain 88 = .ok (.istore 6, 2) := by decide +kernel
theorem dX11_strain_90 : decode cX11_strain 90 = .ok (.iinc 5 1, 3) := by decide +kernel
theorem dX11_strain_93 : decode cX11_strain 93 = .ok (.iinc 8 1, 3) := by decide +kernel
theorem dX11_strain_96 : decode cX11_strain 96 = .ok (.goto (-61), 3) := by decide +kernel
theorem dX11_strain_99 : decode cX11_strain 99 = .ok (.iload 5, 2) := by decide +kernel
theorem dX11_strain_101 : decode cX11_strain 101 = .ok (.iconst 2, 1) := by decide +kernel
theorem dX11_strain_102 : decode cX11_strain 102 = .ok (.if_icmp .ge 9, 3) := by decide +kernel
theorem dX11_strain_105 : decode cX11_strain 105 = .ok (.ldc_w 380, 3) := by decide +kernel
theorem dX11_strain_108 : decode cX11_strain 108 = .ok (.goto 8, 3) := by decide +kernel
theorem dX11_strain_111 : decode cX11_strain 111 = .ok (.iload 7, 2) := by decide +kernel
theorem dX11_strain_113 : decode cX11_strain 113 = .ok (.iload 6, 2) := by decide +kernel
theorem dX11_strain_115 : decode cX11_strain 115 = .ok (.isub, 1) := by decide +kernel
theorem dX11_strain_116 : decode cX11_strain 116 = .ok (.ireturn, 1) := by decide +kernel
set_option maxRecDepth 20000 in
theorem ggX11_direction_X11_requireFeature : GoodIn wsX11_direction wsX11_requireFeature := goodIn_ca (goodIn_r _ [11, 12, 13, 14, 15, 16, 17, 18, 19, 20, 21, 208, 209, 210, 211, 212, 213, 214, 215, 216, 217, 218, 219, 220, 221, 222, 223, 224, 225, 226, 227, 228, 229] (by decide +kernel) (by decide +kernel)) (goodIn_sub (fun _ h => List.mem_cons_of_mem _ (List.mem_append_right _ h)) (by decide +kernel))
set_option maxRecDepth 20000 in
theorem gX11_direction_X11_requireFeature : GoodIn wsX11_direction (wsV RX11 216 RX11 yX11_requireFeature wsX11_requireFeature) := goodIn_app (goodIn_of _ (by decide +kernel)) ggX11_direction_X11_requireFeature
set_option maxRecDepth 20000 in
theorem ggX11_direction_X11_trackOf : GoodIn wsX11_direction wsX11_trackOf := goodIn_r _ [25, 26, 27, 28, 14, 29, 30, 31, 32, 33, 10, 34, 35, 36, 37, 38, 39, 40, 41, 42, 43, 44, 5, 45, 46, 47, 48, 49, 50, 51, 52, 53, 54, 55, 56, 57, 58, 59, 60, 61, 62, 63, 64, 65, 66, 67, 68, 69, 70, 71, 72, 73, 74, 75, 76, 77, 78, 79, 80, 81, 82, 83, 84, 85, 86, 87, 88, 89, 90, 91, 92, 93, 94, 95, 96, 97, 98, 99, 100, 101, 102, 103, 4, 6, 104, 105, 106, 107, 108, 109, 110, 111, 112, 113, 114, 115, 116, 117, 118, 119, 120, 121, 122, 123, 124, 125, 126, 17, 18, 19, 20, 21, 127, 128, 129, 130, 131, 132, 133, 134, 135, 136, 137, 138, 139, 140, 141, 142, 143, 144, 145, 146, 147, 148, 149, 150, 151, 152, 153, 154, 155, 156, 157, 158, 159, 160, 161, 162, 163, 164, 165, 166, 167, 168, 169, 170, 171, 172, 173, 174, 175, 176, 177, 178, 179, 180, 181, 182, 183, 184, 185, 186, 187, 188, 189, 190, 191, 192, 193, 208, 209, 210, 211, 212, 213, 214, 215, 216, 198, 199, 200, 201, 202, 203, 204, 205, 206, 207, 217, 218, 219, 220, 221, 222, 223, 224, 225, 230, 231, 232, 233, 234, 235, 236, 237, 226, 227, 228, 229, 238, 239, 240, 241, 242, 243] (by decide +kernel) (by decide +kernel)
set_option maxRecDepth 20000 in
theorem gX11_direction_X11_trackOf : GoodIn wsX11_direction (wsV RX11 219 RX11 yX11_trackOf wsX11_trackOf) := goodIn_app (goodIn_of _ (by decide +kernel)) ggX11_direction_X11_trackOf
set_option maxRecDepth 20000 in
theorem ggX11_direction_X10_travelled : GoodIn wsX11_direction wsX10_travelled := goodIn_r _ [197, 118, 198, 199, 200, 201, 202, 203, 204, 205, 206, 207] (by decide +kernel) (by decide +kernel)
set_option maxRecDepth 20000 in
theorem gX11_direction_X10_travelled : GoodIn wsX11_direction (wsV RX11 381 RX10 yX10_travelled wsX10_travelled) := goodIn_app (goodIn_of _ (by decide +kernel)) ggX11_direction_X10_travelled
theorem dX11_direction_0 : decode cX11_direction 0 = .ok (.aload_n 0, 1) := by decide +kernel
theorem dX11_direction_1 : decode cX11_direction 1 = .ok (.iload_n 1, 1) := by decide +kernel
theorem dX11_direction_2 : decode cX11_direction 2 = .ok (.invokevirtual 216, 3) := by decide +kernel
theorem dX11_direction_5 : decode cX11_direction 5 = .ok (.aload_n 0, 1) := by decide +kernel
theorem dX11_direction_6 : decode cX11_direction 6 = .ok (.iload_n 1, 1) := by decide +kernel
theorem dX11_direction_7 : decode cX11_direction 7 = .ok (.invokevirtual 219, 3) := by decide +kernel
theorem dX11_direction_10 : decode cX11_direction 10 = .ok (.astore_n 2, 1) := by decide +kernel
theorem dX11_direction_11 : decode cX11_direction 11 = .ok (.aload_n 2, 1) := by decide +kernel
theorem dX11_direction_12 : decode cX11_direction 12 = .ok (.aload_n 2, 1) := by decide +kernel
theorem dX11_direction_13 : decode cX11_direction 13 = .ok (.getfield 277, 3) := by decide +kernel
theorem dX11_direction_16 : decode cX11_direction 16 = .ok (.invokevirtual 381, 3) := by decide +kernel
theorem dX11_direction_19 : decode cX11_direction 19 = .ok (.istore_n 3, 1) := by decide +kernel
theorem dX11_direction_20 : decode cX11_direction 20 = .ok (.aload_n 2, 1) := by decide +kernel
theorem dX11_direction_21 : decode cX11_direction 21 = .ok (.aload_n 2, 1) := by decide +kernel
theorem dX11_direction_22 : decode cX11_direction 22 = .ok (.getfield 284, 3) := by decide +kernel
theorem dX11_direction_25 : decode cX11_direction 25 = .ok (.invokevirtual 381, 3) := by decide +kernel
theorem dX11_direction_28 : decode cX11_direction 28 = .ok (.istore 4, 2) := by decide +kernel
theorem dX11_direction_30 : decode cX11_direction 30 = .ok (.iload_n 3, 1) := by decide +kernel
theorem dX11_direction_31 : decode cX11_direction 31 = .ok (.ifCond .ne 10, 3) := by decide +kernel
theorem dX11_direction_34 : decode cX11_direction 34 = .ok (.iload 4, 2) := by decide +kernel
theorem dX11_direction_36 : decode cX11_direction 36 = .ok (.ifCond .ne 5, 3) := by decide +kernel
theorem dX11_direction_39 : decode cX11_direction 39 = .ok (.iconst (-1), 1) := by decide +kernel
theorem dX11_direction_40 : decode cX11_direction 40 = .ok (.ireturn, 1) := by decide +kernel
theorem dX11_direction_41 : decode cX11_direction 41 = .ok (.iload_n 3, 1) := by decide +kernel
theorem dX11_direction_42 : decode cX11_direction 42 = .ok (.invokestatic 368, 3) := by decide +kernel
theorem dX11_direction_45 : decode cX11_direction 45 = .ok (.iconst 2, 1) := by decide +kernel
theorem dX11_direction_46 : decode cX11_direction 46 = .ok (.iload 4, 2) := by decide +kernel
theorem dX11_direction_48 : decode cX11_direction 48 = .ok (.invokestatic 368, 3) := by decide +kernel
theorem dX11_direction_51 : decode cX11_direction 51 = .ok (.imul, 1) := by decide +kernel
theorem dX11_direction_52 : decode cX11_direction 52 = .ok (.if_icmp .le 13, 3) := by decide +kernel
theorem dX11_direction_55 : decode cX11_direction 55 = .ok (.iload_n 3, 1) := by decide +kernel
theorem dX11_direction_56 : decode cX11_direction 56 = .ok (.ifCond .le 7, 3) := by decide +kernel
theorem dX11_direction_59 : decode cX11_direction 59 = .ok (.iconst 0, 1) := by decide +kernel
theorem dX11_direction_60 : decode cX11_direction 60 = .ok (.goto 4, 3) := by decide +kernel
theorem dX11_direction_63 : decode cX11_direction 63 = .ok (.iconst 4, 1) := by decide +kernel
theorem dX11_direction_64 : decode cX11_direction 64 = .ok (.ireturn, 1) := by decide +kernel
theorem dX11_direction_65 : decode cX11_direction 65 = .ok (.iload 4, 2) := by decide +kernel
theorem dX11_direction_67 : decode cX11_direction 67 = .ok (.invokestatic 368, 3) := by decide +kernel
theorem dX11_direction_70 : decode cX11_direction 70 = .ok (.iconst 2, 1) := by decide +kernel
theorem dX11_direction_71 : decode cX11_direction 71 = .ok (.iload_n 3, 1) := by decide +kernel
theorem dX11_direction_72 : decode cX11_direction 72 = .ok (.invokestatic 368, 3) := by decide +kernel
theorem dX11_direction_75 : decode cX11_direction 75 = .ok (.imul, 1) := by decide +kernel
theorem dX11_direction_76 : decode cX11_direction 76 = .ok (.if_icmp .le 15, 3) := by decide +kernel
theorem dX11_direction_79 : decode cX11_direction 79 = .ok (.iload 4, 2) := by decide +kernel
theorem dX11_direction_81 : decode cX11_direction 81 = .ok (.ifCond .le 7, 3) := by decide +kernel
theorem dX11_direction_84 : decode cX11_direction 84 = .ok (.iconst 2, 1) := by decide +kernel
theorem dX11_direction_85 : decode cX11_direction 85 = .ok (.goto 5, 3) := by decide +kernel
theorem dX11_direction_88 : decode cX11_direction 88 = .ok (.bipush 6, 2) := by decide +kernel
theorem dX11_direction_90 : decode cX11_direction 90 = .ok (.ireturn, 1) := by decide +kernel
theorem dX11_direction_91 : decode cX11_direction 91 = .ok (.iload 4, 2) := by decide +kernel
theorem dX11_direction_93 : decode cX11_direction 93 = .ok (.ifCond .le 13, 3) := by decide +kernel
theorem dX11_direction_96 : decode cX11_direction 96 = .ok (.iload_n 3, 1) := by decide +kernel
theorem dX11_direction_97 : decode cX11_direction 97 = .ok (.ifCond .le 7, 3) := by decide +kernel
theorem dX11_direction_100 : decode cX11_direction 100 = .ok (.iconst 1, 1) := by decide +kernel
theorem dX11_direction_101 : decode cX11_direction 101 = .ok (.goto 4, 3) := by decide +kernel
theorem dX11_direction_104 : decode cX11_direction 104 = .ok (.iconst 3, 1) := by decide +kernel
theorem dX11_direction_105 : decode cX11_direction 105 = .ok (.ireturn, 1) := by decide +kernel
theorem dX11_direction_106 : decode cX11_direction 106 = .ok (.iload_n 3, 1) := by decide +kernel
theorem dX11_direction_107 : decode cX11_direction 107 = .ok (.ifCond .ge 7, 3) := by decide +kernel
theorem dX11_direction_110 : decode cX11_direction 110 = .ok (.iconst 5, 1) := by decide +kernel
theorem dX11_direction_111 : decode cX11_direction 111 = .ok (.goto 5, 3) := by decide +kernel
theorem dX11_direction_114 : decode cX11_direction 114 = .ok (.bipush 7, 2) := by decide +kernel
theorem dX11_direction_116 : decode cX11_direction 116 = .ok (.ireturn, 1) := by decide +kernel
set_option maxRecDepth 20000 in
theorem ggX11_meltInSegment_X11_requireFeature : GoodIn wsX11_meltInSegment wsX11_requireFeature := goodIn_ca (goodIn_r _ [5, 6, 7, 8, 9, 10, 11, 12, 13, 14, 15, 237, 238, 239, 240, 241, 242, 243, 244, 245, 246, 247, 248, 249, 250, 251, 252, 253, 254, 255, 256, 257, 258] (by decide +kernel) (by decide +kernel)) (goodIn_sub (fun _ h => List.mem_cons_of_mem _ (List.mem_append_right _ h)) (by decide +kernel))
set_option maxRecDepth 20000 in
theorem gX11_meltInSegment_X11_requireFeature : GoodIn wsX11_meltInSegment (wsV RX11 216 RX11 yX11_requireFeature wsX11_requireFeature) := goodIn_app (goodIn_of _ (by decide +kernel)) ggX11_meltInSegment_X11_requireFeature
set_option maxRecDepth 20000 in
theorem ggX11_meltInSegment_X11_trackOf : GoodIn wsX11_meltInSegment wsX11_trackOf := goodIn_r _ [19, 20, 21, 22, 8, 23, 24, 25, 26, 27, 4, 28, 29, 30, 31, 32, 33, 34, 35, 36, 37, 38, 39, 40, 41, 42, 43, 44, 45, 46, 47, 48, 49, 50, 51, 52, 53, 54, 55, 56, 57, 58, 59, 60, 61, 62, 63, 64, 65, 66, 67, 68, 69, 70, 71, 72, 73, 74, 75, 76, 77, 78, 79, 80, 81, 82, 83, 84, 85, 86, 87, 88, 89, 90, 91, 92, 93, 94, 95, 96, 97, 98, 99, 100, 101, 102, 103, 104, 105, 106, 107, 108, 109, 110, 111, 112, 113, 114, 115, 116, 117, 118, 119, 120, 121, 122, 123, 11, 12, 13, 14, 15, 124, 125, 126, 127, 128, 129, 130, 131, 132, 133, 134, 135, 136, 137, 138, 139, 140, 141, 142, 143, 144, 145, 146, 147, 148, 149, 150, 151, 152, 153, 154, 155, 156, 157, 158, 159, 160, 161, 162, 163, 164, 165, 166, 167, 168, 169, 170, 171, 172, 173, 174, 175, 176, 177, 178, 179, 180, 181, 182, 183, 184, 185, 186, 187, 188, 189, 190, 237, 238, 239, 240, 241, 242, 243, 244, 245, 259, 260, 261, 262, 263, 264, 265, 266, 267, 268, 246, 247, 248, 249, 250, 251, 252, 253, 254, 269, 270, 271, 272, 273, 274, 275, 276, 255, 256, 257, 258, 277, 278, 279, 280, 281, 282] (by decide +kernel) (by decide +kernel)
set_option maxRecDepth 20000 in
theorem gX11_meltInSegment_X11_trackOf : GoodIn wsX11_meltInSegment (wsV RX11 219 RX11 yX11_trackOf wsX11_trackOf) := goodIn_app (goodIn_of _ (by decide +kernel)) ggX11_meltInSegment_X11_trackOf
set_option maxRecDepth 20000 in
theorem ggX11_meltInSegment_X11_requireSegment : GoodIn wsX11_meltInSegment wsX11_requireSegment := goodIn_ca (goodIn_r _ [193, 6, 7, 194, 195, 196, 113, 197, 115, 259, 260, 261, 262, 263, 264, 265, 266, 267, 268] (by decide +kernel) (by decide +kernel)) (goodIn_sub (fun _ h => List.mem_cons_of_mem _ (List.mem_append_right _ h)) (by decide +kernel))
set_option maxRecDepth 20000 in
theorem gX11_meltInSegment_X11_requireSegment : GoodIn wsX11_meltInSegment (va_wsS RX11 257 yX11_requireSegment wsX11_requireSegment) := goodIn_app (goodIn_of _ (by decide +kernel)) ggX11_meltInSegment_X11_requireSegment
set_option maxRecDepth 20000 in
theorem ggX11_meltInSegment_X10_dayOf : GoodIn wsX11_meltInSegment wsX10_dayOf := goodIn_r _ [201, 129, 161, 162, 163, 113, 164, 115, 259, 260, 261, 262, 263, 264, 265, 266, 267, 268] (by decide +kernel) (by decide +kernel)
set_option maxRecDepth 20000 in
theorem gX11_meltInSegment_X10_dayOf : GoodIn wsX11_meltInSegment (wsV RX11 273 RX10 yX10_dayOf wsX10_dayOf) := goodIn_app (goodIn_of _ (by decide +kernel)) ggX11_meltInSegment_X10_dayOf
set_option maxRecDepth 20000 in
theorem ggX11_meltInSegment_X11_averageMelt : GoodIn wsX11_meltInSegment wsX11_averageMelt := goodIn_r _ [205, 8, 206, 207, 208, 209, 210, 211, 212, 213, 214, 215, 216, 217, 218, 219, 60, 39, 61, 220, 221, 222, 223, 224, 225, 226, 227, 228, 229, 230, 231, 232, 233, 234, 235, 4, 236, 237, 238, 239, 240, 241, 242, 243, 244, 245, 246, 247, 248, 249, 250, 251, 252, 253, 254, 283, 284, 285] (by decide +kernel) (by decide +kernel)
set_option maxRecDepth 20000 in
theorem gX11_meltInSegment_X11_averageMelt : GoodIn wsX11_meltInSegment (wsV RX11 349 RX11 yX11_averageMelt wsX11_averageMelt) := goodIn_app (goodIn_of _ (by decide +kernel)) ggX11_meltInSegment_X11_averageMelt
theorem dX11_meltInSegment_0 : decode cX11_meltInSegment 0 = .ok (.aload_n 0, 1) := by decide +kernel
theorem dX11_meltInSegment_1 : decode cX11_meltInSegment 1 = .ok (.iload_n 1, 1) := by decide +kernel
theorem dX11_meltInSegment_2 : decode cX11_meltInSegment 2 = .ok (.invokevirtual 216, 3) := by decide +kernel
theorem dX11_meltInSegment_5 : decode cX11_meltInSegment 5 = .ok (.aload_n 0, 1) := by decide +kernel
theorem dX11_meltInSegment_6 : decode cX11_meltInSegment 6 = .ok (.iload_n 1, 1) := by decide +kernel
theorem dX11_meltInSegment_7 : decode cX11_meltInSegment 7 = .ok (.invokevirtual 219, 3) := by decide +kernel
theorem dX11_meltInSegment_10 : decode cX11_meltInSegment 10 = .ok (.astore_n 3, 1) := by decide +kernel
theorem dX11_meltInSegment_11 : decode cX11_meltInSegment 11 = .ok (.aload_n 3, 1) := by decide +kernel
theorem dX11_meltInSegment_12 : decode cX11_meltInSegment 12 = .ok (.iload_n 2, 1) := by decide +kernel
theorem dX11_meltInSegment_13 : decode cX11_meltInSegment 13 = .ok (.invokestatic 257, 3) := by decide +kernel
theorem dX11_meltInSegment_16 : decode cX11_meltInSegment 16 = .ok (.aload_n 0, 1) := by decide +kernel
theorem dX11_meltInSegment_17 : decode cX11_meltInSegment 17 = .ok (.aload_n 3, 1) := by decide +kernel
theorem dX11_meltInSegment_18 : decode cX11_meltInSegment 18 = .ok (.iload_n 2, 1) := by decide +kernel
theorem dX11_meltInSegment_19 : decode cX11_meltInSegment 19 = .ok (.invokevirtual 273, 3) := by decide +kernel
theorem dX11_meltInSegment_22 : decode cX11_meltInSegment 22 = .ok (.aload_n 3, 1) := by decide +kernel
theorem dX11_meltInSegment_23 : decode cX11_meltInSegment 23 = .ok (.iload_n 2, 1) := by decide +kernel
theorem dX11_meltInSegment_24 : decode cX11_meltInSegment 24 = .ok (.iconst 1, 1) := by decide +kernel
theorem dX11_meltInSegment_25 : decode cX11_meltInSegment 25 = .ok (.iadd, 1) := by decide +kernel
theorem dX11_meltInSegment_26 : decode cX11_meltInSegment 26 = .ok (.invokevirtual 273, 3) := by decide +kernel
theorem dX11_meltInSegment_29 : decode cX11_meltInSegment 29 = .ok (.invokevirtual 349, 3) := by decide +kernel
theorem dX11_meltInSegment_32 : decode cX11_meltInSegment 32 = .ok (.ireturn, 1) := by decide +kernel
theorem dX11_isSetting_0 : decode cX11_isSetting 0 = .ok (.iload_n 0, 1) := by decide +kernel
theorem dX11_isSetting_1 : decode cX11_isSetting 1 = .ok (.ifCond .lt 13, 3) := by decide +kernel
theorem dX11_isSetting_4 : decode cX11_isSetting 4 = .ok (.iload_n 0, 1) := by decide +kernel
theorem dX11_isSetting_5 : decode cX11_isSetting 5 = .ok (.bipush 8, 2) := by decide +kernel
theorem dX11_isSetting_7 : decode cX11_isSetting 7 = .ok (.if_icmp .ge 7, 3) := by decide +kernel
theorem dX11_isSetting_10 : decode cX11_isSetting 10 = .ok (.iconst 1, 1) := by decide +kernel
theorem dX11_isSetting_11 : decode cX11_isSetting 11 = .ok (.goto 4, 3) := by decide +kernel
theorem dX11_isSetting_14 : decode cX11_isSetting 14 = .ok (.iconst 0, 1) := by decide +kernel
theorem dX11_isSetting_15 : decode cX11_isSetting 15 = .ok (.ireturn, 1) := by decide +kernel
theorem dX11_isBetween_0 : decode cX11_isBetween 0 = .ok (.iload_n 0, 1) := by decide +kernel
theorem dX11_isBetween_1 : decode cX11_isBetween 1 = .ok (.iload_n 1, 1) := by decide +kernel
theorem dX11_isBetween_2 : decode cX11_isBetween 2 = .ok (.if_icmp .lt 12, 3) := by decide +kernel
theorem dX11_isBetween_5 : decode cX11_isBetween 5 = .ok (.iload_n 0, 1) := by decide +kernel
theorem dX11_isBetween_6 : decode cX11_isBetween 6 = .ok (.iload_n 2, 1) := by decide +kernel
theorem dX11_isBetween_7 : decode cX11_isBetween 7 = .ok (.if_icmp .gt 7, 3) := by decide +kernel
theorem dX11_isBetween_10 : decode cX11_isBetween 10 = .ok (.iconst 1, 1) := by decide +kernel
theorem dX11_isBetween_11 : decode cX11_isBetween 11 = .ok (.goto 4, 3) := by decide +kernel
theorem dX11_isBetween_14 : decode cX11_isBetween 14 = .ok (.iconst 0, 1) := by decide +kernel
theorem dX11_isBetween_15 : decode cX11_isBetween 15 = .ok (.ireturn, 1) := by decide +kernel
theorem dX11_quotient_0 : decode cX11_quotient 0 = .ok (.iload_n 1, 1) := by decide +kernel
theorem dX11_quotient_1 : decode cX11_quotient 1 = .ok (.ifCond .le 9, 3) := by decide +kernel
theorem dX11_quotient_4 : decode cX11_quotient 4 = .ok (.iload_n 0, 1) := by decide +kernel
theorem dX11_quotient_5 : decode cX11_quotient 5 = .ok (.iload_n 1, 1) := by decide +kernel
theorem dX11_quotient_6 : decode cX11_quotient 6 = .ok (.idiv, 1) := by decide +kernel
theorem dX11_quotient_7 : decode cX11_quotient 7 = .ok (.goto 4, 3) := by decide +kernel
theorem dX11_quotient_10 : decode cX11_quotient 10 = .ok (.iconst 0, 1) := by decide +kernel
theorem dX11_quotient_11 : decode cX11_quotient 11 = .ok (.ireturn, 1) := by decide +kernel
theorem dX11_squareRoot_0 : decode cX11_squareRoot 0 = .ok (.lconst 0, 1) := by decide +kernel
theorem dX11_squareRoot_1 : decode cX11_squareRoot 1 = .ok (.lstore_n 2, 1) := by decide +kernel
theorem dX11_squareRoot_2 : decode cX11_squareRoot 2 = .ok (.ldc2_w 385, 3) := by decide +kernel
theorem dX11_squareRoot_5 : decode cX11_squareRoot 5 = .ok (.lstore 4, 2) := by decide +kernel
theorem dX11_squareRoot_7 : decode cX11_squareRoot 7 = .ok (.lload 4, 2) := by decide +kernel
theorem dX11_squareRoot_9 : decode cX11_squareRoot 9 = .ok (.lconst 0, 1) := by decide +kernel
theorem dX11_squareRoot_10 : decode cX11_squareRoot 10 = .ok (.lcmp, 1) := by decide +kernel
theorem dX11_squareRoot_11 : decode cX11_squareRoot 11 = .ok (.ifCond .le 31, 3) := by decide +kernel
theorem dX11_squareRoot_14 : decode cX11_squareRoot 14 = .ok (.lload_n 2, 1) := by decide +kernel
theorem dX11_squareRoot_15 : decode cX11_squareRoot 15 = .ok (.lload 4, 2) := by decide +kernel
theorem dX11_squareRoot_17 : decode cX11_squareRoot 17 = .ok (.ladd, 1) := by decide +kernel
theorem dX11_squareRoot_18 : decode cX11_squareRoot 18 = .ok (.lstore 6, 2) := by decide +kernel
theorem dX11_squareRoot_20 : decode cX11_squareRoot 20 = .ok (.lload 6, 2) := by decide +kernel
theorem dX11_squareRoot_22 : decode cX11_squareRoot 22 = .ok (.lload 6, 2) := by decide +kernel
theorem dX11_squareRoot_24 : decode cX11_squareRoot 24 = .ok (.lmul, 1) := by decide +kernel
theorem dX11_squareRoot_25 : decode cX11_squareRoot 25 = .ok (.lload_n 0, 1) := by decide +kernel
theorem dX11_squareRoot_26 : decode cX11_squareRoot 26 = .ok (.lcmp, 1) := by decide +kernel
theorem dX11_squareRoot_27 : decode cX11_squareRoot 27 = .ok (.ifCond .gt 6, 3) := by decide +kernel
theorem dX11_squareRoot_30 : decode cX11_squareRoot 30 = .ok (.lload 6, 2) := by decide +kernel
theorem dX11_squareRoot_32 : decode cX11_squareRoot 32 = .ok (.lstore_n 2, 1) := by decide +kernel
theorem dX11_squareRoot_33 : decode cX11_squareRoot 33 = .ok (.lload 4, 2) := by decide +kernel
theorem dX11_squareRoot_35 : decode cX11_squareRoot 35 = .ok (.iconst 1, 1) := by decide +kernel
theorem dX11_squareRoot_36 : decode cX11_squareRoot 36 = .ok (.lshr, 1) := by decide +kernel
theorem dX11_squareRoot_37 : decode cX11_squareRoot 37 = .ok (.lstore 4, 2) := by decide +kernel
theorem dX11_squareRoot_39 : decode cX11_squareRoot 39 = .ok (.goto (-32), 3) := by decide +kernel
theorem dX11_squareRoot_42 : decode cX11_squareRoot 42 = .ok (.lload_n 2, 1) := by decide +kernel
theorem dX11_squareRoot_43 : decode cX11_squareRoot 43 = .ok (.l2i, 1) := by decide +kernel
theorem dX11_squareRoot_44 : decode cX11_squareRoot 44 = .ok (.ireturn, 1) := by decide +kernel
set_option maxRecDepth 20000 in
theorem ggX11_requireFrame_X8_hasFrame : GoodIn wsX11_requireFrame wsX8_hasFrame := goodIn_r _ [8, 9, 19, 20, 21, 22, 23, 24, 25, 26, 27] (by decide +kernel) (by decide +kernel)
set_option maxRecDepth 20000 in
theorem gX11_requireFrame_X8_hasFrame : GoodIn wsX11_requireFrame (wsV RX11 151 RX8 yX8_hasFrame wsX8_hasFrame) := goodIn_app (goodIn_of _ (by decide +kernel)) ggX11_requireFrame_X8_hasFrame
theorem dX11_requireFrame_0 : decode cX11_requireFrame 0 = .ok (.aload_n 0, 1) := by decide +kernel
theorem dX11_requireFrame_1 : decode cX11_requireFrame 1 = .ok (.getfield 10, 3) := by decide +kernel
theorem dX11_requireFrame_4 : decode cX11_requireFrame 4 = .ok (.iload_n 1, 1) := by decide +kernel
theorem dX11_requireFrame_5 : decode cX11_requireFrame 5 = .ok (.invokevirtual 151, 3) := by decide +kernel
theorem dX11_requireFrame_8 : decode cX11_requireFrame 8 = .ok (.ifCond .ne 14, 3) := by decide +kernel
theorem dX11_requireFrame_11 : decode cX11_requireFrame 11 = .ok (.new 387, 3) := by decide +kernel
theorem dX11_requireFrame_14 : decode cX11_requireFrame 14 = .ok (.dup, 1) := by decide +kernel
theorem dX11_requireFrame_15 : decode cX11_requireFrame 15 = .ok (.ldc_w 389, 3) := by decide +kernel
theorem dX11_requireFrame_18 : decode cX11_requireFrame 18 = .ok (.invokespecial 391, 3) := by decide +kernel
theorem dX11_requireFrame_21 : decode cX11_requireFrame 21 = .ok (.athrow, 1) := by decide +kernel
theorem dX11_requireFrame_22 : decode cX11_requireFrame 22 = .ok (.return_, 1) := by decide +kernel
set_option maxRecDepth 20000 in
theorem ggX11_requirePixel_X8_hasPixel : GoodIn wsX11_requirePixel wsX8_hasPixel := goodIn_r _ [8, 9, 10, 20, 21, 22, 23, 24, 25, 26, 27, 28] (by decide +kernel) (by decide +kernel)
set_option maxRecDepth 20000 in
theorem gX11_requirePixel_X8_hasPixel : GoodIn wsX11_requirePixel (wsV RX11 154 RX8 yX8_hasPixel wsX8_hasPixel) := goodIn_app (goodIn_of _ (by decide +kernel)) ggX11_requirePixel_X8_hasPixel
theorem dX11_requirePixel_0 : decode cX11_requirePixel 0 = .ok (.aload_n 0, 1) := by decide +kernel
theorem dX11_requirePixel_1 : decode cX11_requirePixel 1 = .ok (.getfield 10, 3) := by decide +kernel
theorem dX11_requirePixel_4 : decode cX11_requirePixel 4 = .ok (.iload_n 1, 1) := by decide +kernel
theorem dX11_requirePixel_5 : decode cX11_requirePixel 5 = .ok (.iload_n 2, 1) := by decide +kernel
theorem dX11_requirePixel_6 : decode cX11_requirePixel 6 = .ok (.invokevirtual 154, 3) := by decide +kernel
theorem dX11_requirePixel_9 : decode cX11_requirePixel 9 = .ok (.ifCond .ne 14, 3) := by decide +kernel
theorem dX11_requirePixel_12 : decode cX11_requirePixel 12 = .ok (.new 387, 3) := by decide +kernel
theorem dX11_requirePixel_15 : decode cX11_requirePixel 15 = .ok (.dup, 1) := by decide +kernel
theorem dX11_requirePixel_16 : decode cX11_requirePixel 16 = .ok (.ldc_w 394, 3) := by decide +kernel
theorem dX11_requirePixel_19 : decode cX11_requirePixel 19 = .ok (.invokespecial 391, 3) := by decide +kernel
theorem dX11_requirePixel_22 : decode cX11_requirePixel 22 = .ok (.athrow, 1) := by decide +kernel
theorem dX11_requirePixel_23 : decode cX11_requirePixel 23 = .ok (.return_, 1) := by decide +kernel
set_option maxRecDepth 20000 in
theorem ggX11_requireOriented_X11_requireFrame : GoodIn wsX11_requireOriented wsX11_requireFrame := goodIn_ca (goodIn_r _ [7, 8, 9, 10, 11, 12, 13, 14, 15, 16, 99, 100, 101, 102, 103, 104, 105, 106, 107, 108, 109, 110, 111, 112, 113, 114, 115, 116] (by decide +kernel) (by decide +kernel)) (goodIn_sub (fun _ h => List.mem_cons_of_mem _ (List.mem_append_right _ h)) (by decide +kernel))
set_option maxRecDepth 20000 in
theorem gX11_requireOriented_X11_requireFrame : GoodIn wsX11_requireOriented (wsV RX11 137 RX11 yX11_requireFrame wsX11_requireFrame) := goodIn_app (goodIn_of _ (by decide +kernel)) ggX11_requireOriented_X11_requireFrame
set_option maxRecDepth 20000 in
theorem ggX11_requireOriented_X11_currentOrientation : GoodIn wsX11_requireOriented wsX11_currentOrientation := goodIn_r _ [20, 21, 22, 23, 10, 24, 25, 26, 27, 14, 28, 29, 30, 31, 32, 16, 33, 34, 35, 36, 37, 38, 12, 13, 15, 39, 40, 41, 42, 43, 44, 45, 46, 47, 48, 49, 50, 51, 52, 53, 54, 55, 56, 57, 58, 59, 60, 61, 62, 63, 64, 65, 66, 67, 68, 69, 70, 71, 72, 73, 74, 75, 76, 77, 78, 79, 80, 81, 82, 83, 84, 85, 86, 87, 88, 89, 90, 91, 92, 93, 94, 95, 96, 97, 99, 100, 101, 102, 103, 104, 105, 106, 107, 117, 118, 119, 120, 121, 122, 108, 109, 110, 111, 112, 113, 114, 115, 116, 123, 124, 125, 126, 127, 128] (by decide +kernel) (by decide +kernel)
set_option maxRecDepth 20000 in
theorem gX11_requireOriented_X11_currentOrientation : GoodIn wsX11_requireOriented (wsV RX11 174 RX11 yX11_currentOrientation wsX11_currentOrientation) := goodIn_app (goodIn_of _ (by decide +kernel)) ggX11_requireOriented_X11_currentOrientation
set_option maxRecDepth 20000 in
theorem ggX11_requireOriented_X6_covers : GoodIn wsX11_requireOriented wsX6_covers := goodIn_r _ [97, 56, 117, 118, 119, 120, 121, 122] (by decide +kernel) (by decide +kernel)
set_option maxRecDepth 20000 in
theorem gX11_requireOriented_X6_covers : GoodIn wsX11_requireOriented (wsV RX11 178 RX6 yX6_covers wsX6_covers) := goodIn_app (goodIn_of _ (by decide +kernel)) ggX11_requireOriented_X6_covers
theorem dX11_requireOriented_0 : decode cX11_requireOriented 0 = .ok (.aload_n 0, 1) := by decide +kernel
theorem dX11_requireOriented_1 : decode cX11_requireOriented 1 = .ok (.iload_n 1, 1) := by decide +kernel
theorem dX11_requireOriented_2 : decode cX11_requireOriented 2 = .ok (.invokevirtual 137, 3) := by decide +kernel
theorem dX11_requireOriented_5 : decode cX11_requireOriented 5 = .ok (.aload_n 0, 1) := by decide +kernel
theorem dX11_requireOriented_6 : decode cX11_requireOriented 6 = .ok (.invokevirtual 174, 3) := by decide +kernel
theorem dX11_requireOriented_9 : decode cX11_requireOriented 9 = .ok (.iload_n 1, 1) := by decide +kernel
theorem dX11_requireOriented_10 : decode cX11_requireOriented 10 = .ok (.invokevirtual 178, 3) := by decide +kernel
theorem dX11_requireOriented_13 : decode cX11_requireOriented 13 = .ok (.ifCond .ne 14, 3) := by decide +kernel
theorem dX11_requireOriented_16 : decode cX11_requireOriented 16 = .ok (.new 396, 3) := by decide +kernel
theorem dX11_requireOriented_19 : decode cX11_requireOriented 19 = .ok (.dup, 1) := by decide +kernel
theorem dX11_requireOriented_20 : decode cX11_requireOriented 20 = .ok (.ldc_w 398, 3) := by decide +kernel
theorem dX11_requireOriented_23 : decode cX11_requireOriented 23 = .ok (.invokespecial 400, 3) := by decide +kernel
theorem dX11_requireOriented_26 : decode cX11_requireOriented 26 = .ok (.athrow, 1) := by decide +kernel
theorem dX11_requireOriented_27 : decode cX11_requireOriented 27 = .ok (.return_, 1) := by decide +kernel
set_option maxRecDepth 20000 in
theorem ggX11_requireFeature_X7_has : GoodIn wsX11_requireFeature wsX7_has := goodIn_r _ [9, 10, 29, 30, 31, 32] (by decide +kernel) (by decide +kernel)
set_option maxRecDepth 20000 in
theorem gX11_requireFeature_X7_has : GoodIn wsX11_requireFeature (wsV RX11 287 RX7 yX7_has wsX7_has) := goodIn_app (goodIn_of _ (by decide +kernel)) ggX11_requireFeature_X7_has
theorem dX11_requireFeature_0 : decode cX11_requireFeature 0 = .ok (.aload_n 0, 1) := by decide +kernel
theorem dX11_requireFeature_1 : decode cX11_requireFeature 1 = .ok (.getfield 10, 3) := by decide +kernel
theorem dX11_requireFeature_4 : decode cX11_requireFeature 4 = .ok (.getfield 107, 3) := by decide +kernel
theorem dX11_requireFeature_7 : decode cX11_requireFeature 7 = .ok (.iload_n 1, 1) := by decide +kernel
theorem dX11_requireFeature_8 : decode cX11_requireFeature 8 = .ok (.invokevirtual 287, 3) := by decide +kernel
theorem dX11_requireFeature_11 : decode cX11_requireFeature 11 = .ok (.ifCond .ne 14, 3) := by decide +kernel
theorem dX11_requireFeature_14 : decode cX11_requireFeature 14 = .ok (.new 387, 3) := by decide +kernel
theorem dX11_requireFeature_17 : decode cX11_requireFeature 17 = .ok (.dup, 1) := by decide +kernel
theorem dX11_requireFeature_18 : decode cX11_requireFeature 18 = .ok (.ldc_w 401, 3) := by decide +kernel
theorem dX11_requireFeature_21 : decode cX11_requireFeature 21 = .ok (.invokespecial 391, 3) := by decide +kernel
theorem dX11_requireFeature_24 : decode cX11_requireFeature 24 = .ok (.athrow, 1) := by decide +kernel
theorem dX11_requireFeature_25 : decode cX11_requireFeature 25 = .ok (.return_, 1) := by decide +kernel
set_option maxRecDepth 20000 in
theorem ggX11_requireSegment_X10_hasSegment : GoodIn wsX11_requireSegment wsX10_hasSegment := goodIn_r _ [7, 8, 9, 10, 11, 12, 13, 14, 15, 16, 17, 18] (by decide +kernel) (by decide +kernel)
set_option maxRecDepth 20000 in
theorem gX11_requireSegment_X10_hasSegment : GoodIn wsX11_requireSegment (wsV RX11 403 RX10 yX10_hasSegment wsX10_hasSegment) := goodIn_app (goodIn_of _ (by decide +kernel)) ggX11_requireSegment_X10_hasSegment
theorem dX11_requireSegment_0 : decode cX11_requireSegment 0 = .ok (.aload_n 0, 1) := by decide +kernel
theorem dX11_requireSegment_1 : decode cX11_requireSegment 1 = .ok (.iload_n 1, 1) := by decide +kernel
theorem dX11_requireSegment_2 : decode cX11_requireSegment 2 = .ok (.invokevirtual 403, 3) := by decide +kernel
theorem dX11_requireSegment_5 : decode cX11_requireSegment 5 = .ok (.ifCond .ne 14, 3) := by decide +kernel
theorem dX11_requireSegment_8 : decode cX11_requireSegment 8 = .ok (.new 387, 3) := by decide +kernel
theorem dX11_requireSegment_11 : decode cX11_requireSegment 11 = .ok (.dup, 1) := by decide +kernel
theorem dX11_requireSegment_12 : decode cX11_requireSegment 12 = .ok (.ldc_w 406, 3) := by decide +kernel
theorem dX11_requireSegment_15 : decode cX11_requireSegment 15 = .ok (.invokespecial 391, 3) := by decide +kernel
theorem dX11_requireSegment_18 : decode cX11_requireSegment 18 = .ok (.athrow, 1) := by decide +kernel
theorem dX11_requireSegment_19 : decode cX11_requireSegment 19 = .ok (.return_, 1) := by decide +kernel
set_option maxRecDepth 20000 in
theorem ggX11_requireStake_X8_hasStake : GoodIn wsX11_requireStake wsX8_hasStake := goodIn_r _ [8, 9, 19, 20, 21, 22, 23, 24, 25, 26, 27] (by decide +kernel) (by decide +kernel)
set_option maxRecDepth 20000 in
theorem gX11_requireStake_X8_hasStake : GoodIn wsX11_requireStake (wsV RX11 328 RX8 yX8_hasStake wsX8_hasStake) := goodIn_app (goodIn_of _ (by decide +kernel)) ggX11_requireStake_X8_hasStake
theorem dX11_requireStake_0 : decode cX11_requireStake 0 = .ok (.aload_n 0, 1) := by decide +kernel
theorem dX11_requireStake_1 : decode cX11_requireStake 1 = .ok (.getfield 10, 3) := by decide +kernel
theorem dX11_requireStake_4 : decode cX11_requireStake 4 = .ok (.iload_n 1, 1) := by decide +kernel
theorem dX11_requireStake_5 : decode cX11_requireStake 5 = .ok (.invokevirtual 328, 3) := by decide +kernel
theorem dX11_requireStake_8 : decode cX11_requireStake 8 = .ok (.ifCond .ne 14, 3) := by decide +kernel
theorem dX11_requireStake_11 : decode cX11_requireStake 11 = .ok (.new 387, 3) := by decide +kernel
theorem dX11_requireStake_14 : decode cX11_requireStake 14 = .ok (.dup, 1) := by decide +kernel
theorem dX11_requireStake_15 : decode cX11_requireStake 15 = .ok (.ldc_w 408, 3) := by decide +kernel
theorem dX11_requireStake_18 : decode cX11_requireStake 18 = .ok (.invokespecial 391, 3) := by decide +kernel
theorem dX11_requireStake_21 : decode cX11_requireStake 21 = .ok (.athrow, 1) := by decide +kernel
theorem dX11_requireStake_22 : decode cX11_requireStake 22 = .ok (.return_, 1) := by decide +kernel
set_option maxRecDepth 20000 in
theorem ggX11_requireReading_X11_requireStake : GoodIn wsX11_requireReading wsX11_requireStake := goodIn_ca (goodIn_r _ [10, 1, 2, 3, 11, 12, 13, 14, 15, 16, 17, 18, 19, 20, 21, 22, 23, 24, 25, 26, 27, 28, 29, 30, 31, 32, 33, 34] (by decide +kernel) (by decide +kernel)) (goodIn_sub (fun _ h => List.mem_cons_of_mem _ (List.mem_append_right _ h)) (by decide +kernel))
set_option maxRecDepth 20000 in
theorem gX11_requireReading_X11_requireStake : GoodIn wsX11_requireReading (wsV RX11 309 RX11 yX11_requireStake wsX11_requireStake) := goodIn_app (goodIn_of _ (by decide +kernel)) ggX11_requireReading_X11_requireStake
theorem dX11_requireReading_0 : decode cX11_requireReading 0 = .ok (.aload_n 0, 1) := by decide +kernel
theorem dX11_requireReading_1 : decode cX11_requireReading 1 = .ok (.iload_n 1, 1) := by decide +kernel
theorem dX11_requireReading_2 : decode cX11_requireReading 2 = .ok (.invokevirtual 309, 3) := by decide +kernel
theorem dX11_requireReading_5 : decode cX11_requireReading 5 = .ok (.iload_n 2, 1) := by decide +kernel
theorem dX11_requireReading_6 : decode cX11_requireReading 6 = .ok (.ifCond .lt 19, 3) := by decide +kernel
theorem dX11_requireReading_9 : decode cX11_requireReading 9 = .ok (.iload_n 2, 1) := by decide +kernel
theorem dX11_requireReading_10 : decode cX11_requireReading 10 = .ok (.aload_n 0, 1) := by decide +kernel
theorem dX11_requireReading_11 : decode cX11_requireReading 11 = .ok (.getfield 10, 3) := by decide +kernel
theorem dX11_requireReading_14 : decode cX11_requireReading 14 = .ok (.getfield 312, 3) := by decide +kernel
theorem dX11_requireReading_17 : decode cX11_requireReading 17 = .ok (.iload_n 1, 1) := by decide +kernel
theorem dX11_requireReading_18 : decode cX11_requireReading 18 = .ok (.aaload, 1) := by decide +kernel
theorem dX11_requireReading_19 : decode cX11_requireReading 19 = .ok (.getfield 316, 3) := by decide +kernel
theorem dX11_requireReading_22 : decode cX11_requireReading 22 = .ok (.if_icmp .lt 14, 3) := by decide +kernel
theorem dX11_requireReading_25 : decode cX11_requireReading 25 = .ok (.new 387, 3) := by decide +kernel
theorem dX11_requireReading_28 : decode cX11_requireReading 28 = .ok (.dup, 1) := by decide +kernel
theorem dX11_requireReading_29 : decode cX11_requireReading 29 = .ok (.ldc_w 410, 3) := by decide +kernel
theorem dX11_requireReading_32 : decode cX11_requireReading 32 = .ok (.invokespecial 391, 3) := by decide +kernel
theorem dX11_requireReading_35 : decode cX11_requireReading 35 = .ok (.athrow, 1) := by decide +kernel
theorem dX11_requireReading_36 : decode cX11_requireReading 36 = .ok (.return_, 1) := by decide +kernel
set_option maxRecDepth 20000 in
theorem ggX11_record_X3_add : GoodIn wsX11_record wsX3_add := goodIn_r _ [7, 8, 9, 10, 11, 12, 13, 14, 15, 16, 17, 6, 18, 19, 20, 21, 22, 23, 33, 34, 35, 36, 37, 38, 39, 40] (by decide +kernel) (by decide +kernel)
set_option maxRecDepth 20000 in
theorem gX11_record_X3_add : GoodIn wsX11_record (wsV RX11 412 RX3 yX3_add wsX3_add) := goodIn_app (goodIn_of _ (by decide +kernel)) ggX11_record_X3_add
theorem dX11_record_0 : decode cX11_record 0 = .ok (.aload_n 0, 1) := by decide +kernel
theorem dX11_record_1 : decode cX11_record 1 = .ok (.getfield 26, 3) := by decide +kernel
theorem dX11_record_4 : decode cX11_record 4 = .ok (.iload_n 1, 1) := by decide +kernel
theorem dX11_record_5 : decode cX11_record 5 = .ok (.iload_n 2, 1) := by decide +kernel
theorem dX11_record_6 : decode cX11_record 6 = .ok (.iload_n 3, 1) := by decide +kernel
theorem dX11_record_7 : decode cX11_record 7 = .ok (.iload 4, 2) := by decide +kernel
theorem dX11_record_9 : decode cX11_record 9 = .ok (.iload 5, 2) := by decide +kernel
theorem dX11_record_11 : decode cX11_record 11 = .ok (.invokevirtual 412, 3) := by decide +kernel
theorem dX11_record_14 : decode cX11_record 14 = .ok (.aload_n 0, 1) := by decide +kernel
theorem dX11_record_15 : decode cX11_record 15 = .ok (.dup, 1) := by decide +kernel
theorem dX11_record_16 : decode cX11_record 16 = .ok (.getfield 59, 3) := by decide +kernel
theorem dX11_record_19 : decode cX11_record 19 = .ok (.iconst 1, 1) := by decide +kernel
theorem dX11_record_20 : decode cX11_record 20 = .ok (.iadd, 1) := by decide +kernel
theorem dX11_record_21 : decode cX11_record 21 = .ok (.putfield 59, 3) := by decide +kernel
theorem dX11_record_24 : decode cX11_record 24 = .ok (.return_, 1) := by decide +kernel
set_option maxRecDepth 20000 in
theorem ggX11_currentOrientation_X8_usableFrom : GoodIn wsX11_currentOrientation wsX8_usableFrom := goodIn_r _ [10, 11, 12, 13, 14, 15, 16, 17, 18, 9, 19, 20, 21, 22, 23, 24, 25, 26, 27, 28, 29, 30, 31, 32, 33, 34, 35, 99, 100, 101, 102, 103, 104, 105, 106, 107, 108, 109] (by decide +kernel) (by decide +kernel)
set_option maxRecDepth 20000 in
theorem gX11_currentOrientation_X8_usableFrom : GoodIn wsX11_currentOrientation (wsV RX11 171 RX8 yX8_usableFrom wsX8_usableFrom) := goodIn_app (goodIn_of _ (by decide +kernel)) ggX11_currentOrientation_X8_usableFrom
set_option maxRecDepth 20000 in
theorem ggX11_currentOrientation_X6_begin : GoodIn wsX11_currentOrientation wsX6_begin := goodIn_r _ [40, 41, 42, 43, 44, 45, 39, 46, 47, 48, 49, 93, 94, 95, 96, 97, 98] (by decide +kernel) (by decide +kernel)
set_option maxRecDepth 20000 in
theorem gX11_currentOrientation_X6_begin : GoodIn wsX11_currentOrientation (wsV RX11 416 RX6 yX6_begin wsX6_begin) := goodIn_app (goodIn_of _ (by decide +kernel)) ggX11_currentOrientation_X6_begin
set_option maxRecDepth 20000 in
theorem ggX11_currentOrientation_X8_usable : GoodIn wsX11_currentOrientation wsX8_usable := goodIn_r _ [19, 20, 21, 22, 23, 9, 24, 15, 25, 26, 27, 28, 29, 30, 31, 32, 33, 34, 13, 35, 11, 12, 14, 99, 100, 101, 102, 103, 104, 105, 106, 107, 108, 109] (by decide +kernel) (by decide +kernel)
set_option maxRecDepth 20000 in
theorem gX11_currentOrientation_X8_usable : GoodIn wsX11_currentOrientation (wsV RX11 168 RX8 yX8_usable wsX8_usable) := goodIn_app (goodIn_of _ (by decide +kernel)) ggX11_currentOrientation_X8_usable
set_option maxRecDepth 20000 in
theorem ggX11_currentOrientation_X6_findShift : GoodIn wsX11_currentOrientation wsX6_findShift := goodIn_r _ [54, 41, 55, 56, 57, 58, 9, 59, 60, 61, 62, 63, 64, 65, 66, 67, 20, 32, 31, 68, 69, 70, 71, 29, 30, 72, 73, 13, 74, 21, 22, 23, 24, 15, 75, 76, 77, 39, 78, 47, 79, 48, 49, 80, 81, 82, 83, 42, 43, 44, 45, 46, 93, 94, 95, 96, 97, 98, 99, 100, 101, 102, 103, 104, 105, 106, 107, 110, 111, 112, 113, 108, 109] (by decide +kernel) (by decide +kernel)
set_option maxRecDepth 20000 in
theorem gX11_currentOrientation_X6_findShift : GoodIn wsX11_currentOrientation (wsV RX11 419 RX6 yX6_findShift wsX6_findShift) := goodIn_app (goodIn_of _ (by decide +kernel)) ggX11_currentOrientation_X6_findShift
theorem dX11_currentOrientation_0 : decode cX11_currentOrientation 0 = .ok (.aload_n 0, 1) := by decide +kernel
theorem dX11_currentOrientation_1 : decode cX11_currentOrientation 1 = .ok (.getfield 33, 3) := by decide +kernel
theorem dX11_currentOrientation_4 : decode cX11_currentOrientation 4 = .ok (.getfield 415, 3) := by decide +kernel
theorem dX11_currentOrientation_7 : decode cX11_currentOrientation 7 = .ok (.aload_n 0, 1) := by decide +kernel
theorem dX11_currentOrientation_8 : decode cX11_currentOrientation 8 = .ok (.getfield 59, 3) := by decide +kernel
theorem dX11_currentOrientation_11 : decode cX11_currentOrientation 11 = .ok (.if_icmp .eq 71, 3) := by decide +kernel
theorem dX11_currentOrientation_14 : decode cX11_currentOrientation 14 = .ok (.aload_n 0, 1) := by decide +kernel
theorem dX11_currentOrientation_15 : decode cX11_currentOrientation 15 = .ok (.getfield 33, 3) := by decide +kernel
theorem dX11_currentOrientation_18 : decode cX11_currentOrientation 18 = .ok (.aload_n 0, 1) := by decide +kernel
theorem dX11_currentOrientation_19 : decode cX11_currentOrientation 19 = .ok (.getfield 10, 3) := by decide +kernel
theorem dX11_currentOrientation_22 : decode cX11_currentOrientation 22 = .ok (.iconst 0, 1) := by decide +kernel
theorem dX11_currentOrientation_23 : decode cX11_currentOrientation 23 = .ok (.invokevirtual 171, 3) := by decide +kernel
theorem dX11_currentOrientation_26 : decode cX11_currentOrientation 26 = .ok (.invokevirtual 416, 3) := by decide +kernel
theorem dX11_currentOrientation_29 : decode cX11_currentOrientation 29 = .ok (.iconst 0, 1) := by decide +kernel
theorem dX11_currentOrientation_30 : decode cX11_currentOrientation 30 = .ok (.istore_n 1, 1) := by decide +kernel
theorem dX11_currentOrientation_31 : decode cX11_currentOrientation 31 = .ok (.iload_n 1, 1) := by decide +kernel
theorem dX11_currentOrientation_32 : decode cX11_currentOrientation 32 = .ok (.aload_n 0, 1) := by decide +kernel
theorem dX11_currentOrientation_33 : decode cX11_currentOrientation 33 = .ok (.getfield 10, 3) := by decide +kernel
theorem dX11_currentOrientation_36 : decode cX11_currentOrientation 36 = .ok (.getfield 95, 3) := by decide +kernel
theorem dX11_currentOrientation_39 : decode cX11_currentOrientation 39 = .ok (.if_icmp .ge 32, 3) := by decide +kernel
theorem dX11_currentOrientation_42 : decode cX11_currentOrientation 42 = .ok (.aload_n 0, 1) := by decide +kernel
theorem dX11_currentOrientation_43 : decode cX11_currentOrientation 43 = .ok (.getfield 10, 3) := by decide +kernel
theorem dX11_currentOrientation_46 : decode cX11_currentOrientation 46 = .ok (.iload_n 1, 1) := by decide +kernel
theorem dX11_currentOrientation_47 : decode cX11_currentOrientation 47 = .ok (.invokevirtual 168, 3) := by decide +kernel
theorem dX11_currentOrientation_50 : decode cX11_currentOrientation 50 = .ok (.ifCond .eq 15, 3) := by decide +kernel
theorem dX11_currentOrientation_53 : decode cX11_currentOrientation 53 = .ok (.aload_n 0, 1) := by decide +kernel
theorem dX11_currentOrientation_54 : decode cX11_currentOrientation 54 = .ok (.getfield 33, 3) := by decide +kernel
theorem dX11_currentOrientation_57 : decode cX11_currentOrientation 57 = .ok (.aload_n 0, 1) := by decide +kernel
theorem dX11_currentOrientation_58 : decode cX11_currentOrientation 58 = .ok (.getfield 10, 3) := by decide +kernel
theorem dX11_currentOrientation_61 : decode cX11_currentOrientation 61 = .ok (.iload_n 1, 1) := by decide +kernel
theorem dX11_currentOrientation_62 : decode cX11_currentOrientation 62 = .ok (.invokevirtual 419, 3) := by decide +kernel
theorem dX11_currentOrientation_65 : decode cX11_currentOrientation 65 = .ok (.iinc 1 1, 3) := by decide +kernel
theorem dX11_currentOrientation_68 : decode cX11_currentOrientation 68 = .ok (.goto (-37), 3) := by decide +kernel
theorem dX11_currentOrientation_71 : decode cX11_currentOrientation 71 = .ok (.aload_n 0, 1) := by decide +kernel
theorem dX11_currentOrientation_72 : decode cX11_currentOrientation 72 = .ok (.getfield 33, 3) := by decide +kernel
theorem dX11_currentOrientation_75 : decode cX11_currentOrientation 75 = .ok (.aload_n 0, 1) := by decide +kernel
theorem dX11_currentOrientation_76 : decode cX11_currentOrientation 76 = .ok (.getfield 59, 3) := by decide +kernel
theorem dX11_currentOrientation_79 : decode cX11_currentOrientation 79 = .ok (.putfield 415, 3) := by decide +kernel
theorem dX11_currentOrientation_82 : decode cX11_currentOrientation 82 = .ok (.aload_n 0, 1) := by decide +kernel
theorem dX11_currentOrientation_83 : decode cX11_currentOrientation 83 = .ok (.getfield 33, 3) := by decide +kernel
theorem dX11_currentOrientation_86 : decode cX11_currentOrientation 86 = .ok (.areturn, 1) := by decide +kernel
set_option maxRecDepth 20000 in
theorem ggX11_trackOf_X11_currentOrientation : GoodIn wsX11_trackOf wsX11_currentOrientation := goodIn_r _ [11, 12, 13, 3, 4, 14, 15, 16, 17, 18, 19, 20, 21, 22, 23, 24, 25, 26, 27, 28, 29, 30, 31, 32, 33, 34, 35, 36, 37, 38, 39, 40, 41, 42, 43, 44, 45, 46, 47, 48, 49, 50, 51, 52, 53, 54, 55, 56, 57, 58, 59, 60, 61, 62, 63, 64, 65, 66, 67, 68, 69, 70, 71, 72, 73, 74, 75, 76, 77, 78, 79, 80, 81, 82, 83, 84, 85, 86, 87, 88, 89, 90, 91, 92, 179, 180, 181, 182, 183, 184, 185, 186, 187, 207, 208, 209, 210, 211, 212, 198, 199, 200, 201, 202, 203, 204, 205, 206, 213, 214, 215, 216, 217, 218] (by decide +kernel) (by decide +kernel)
set_option maxRecDepth 20000 in
theorem gX11_trackOf_X11_currentOrientation : GoodIn wsX11_trackOf (wsV RX11 174 RX11 yX11_currentOrientation wsX11_currentOrientation) := goodIn_app (goodIn_of _ (by decide +kernel)) ggX11_trackOf_X11_currentOrientation
set_option maxRecDepth 20000 in
theorem ggX11_trackOf_X10_trace : GoodIn wsX11_trackOf wsX10_trace := goodIn_r _ [97, 98, 99, 100, 101, 102, 103, 104, 105, 106, 107, 108, 109, 110, 111, 112, 113, 114, 96, 115, 116, 117, 118, 119, 120, 121, 122, 123, 124, 18, 125, 38, 126, 30, 31, 32, 33, 24, 127, 128, 129, 48, 130, 56, 89, 90, 91, 92, 51, 131, 132, 133, 134, 57, 135, 136, 137, 138, 29, 139, 140, 141, 142, 143, 144, 145, 146, 147, 82, 22, 83, 148, 21, 23, 149, 150, 151, 152, 153, 154, 155, 156, 157, 158, 159, 160, 161, 162, 74, 75, 76, 41, 40, 163, 164, 165, 78, 79, 80, 39, 81, 73, 166, 167, 168, 169, 170, 171, 172, 173, 174, 175, 176, 177, 178, 188, 189, 190, 191, 192, 193, 194, 195, 196, 197, 207, 208, 209, 210, 211, 212, 198, 199, 200, 201, 202, 203, 204, 205, 206, 215, 216, 217, 218, 213, 214, 219, 220, 221, 222, 223, 224] (by decide +kernel) (by decide +kernel)
set_option maxRecDepth 20000 in
theorem gX11_trackOf_X10_trace : GoodIn wsX11_trackOf (wsV RX11 238 RX10 yX10_trace wsX10_trace) := goodIn_app (goodIn_of _ (by decide +kernel)) ggX11_trackOf_X10_trace
theorem dX11_trackOf_0 : decode cX11_trackOf 0 = .ok (.aload_n 0, 1) := by decide +kernel
theorem dX11_trackOf_1 : decode cX11_trackOf 1 = .ok (.getfield 46, 3) := by decide +kernel
theorem dX11_trackOf_4 : decode cX11_trackOf 4 = .ok (.iload_n 1, 1) := by decide +kernel
theorem dX11_trackOf_5 : decode cX11_trackOf 5 = .ok (.aaload, 1) := by decide +kernel
theorem dX11_trackOf_6 : decode cX11_trackOf 6 = .ok (.astore_n 2, 1) := by decide +kernel
theorem dX11_trackOf_7 : decode cX11_trackOf 7 = .ok (.aload_n 2, 1) := by decide +kernel
theorem dX11_trackOf_8 : decode cX11_trackOf 8 = .ok (.getfield 423, 3) := by decide +kernel
theorem dX11_trackOf_11 : decode cX11_trackOf 11 = .ok (.aload_n 0, 1) := by decide +kernel
theorem dX11_trackOf_12 : decode cX11_trackOf 12 = .ok (.getfield 59, 3) := by decide +kernel
theorem dX11_trackOf_15 : decode cX11_trackOf 15 = .ok (.if_icmp .eq 37, 3) := by decide +kernel
theorem dX11_trackOf_18 : decode cX11_trackOf 18 = .ok (.aload_n 2, 1) := by decide +kernel
theorem dX11_trackOf_19 : decode cX11_trackOf 19 = .ok (.aload_n 0, 1) := by decide +kernel
theorem dX11_trackOf_20 : decode cX11_trackOf 20 = .ok (.getfield 10, 3) := by decide +kernel
theorem dX11_trackOf_23 : decode cX11_trackOf 23 = .ok (.aload_n 0, 1) := by decide +kernel
theorem dX11_trackOf_24 : decode cX11_trackOf 24 = .ok (.invokevirtual 174, 3) := by decide +kernel
theorem dX11_trackOf_27 : decode cX11_trackOf 27 = .ok (.aload_n 0, 1) := by decide +kernel
theorem dX11_trackOf_28 : decode cX11_trackOf 28 = .ok (.getfield 40, 3) := by decide +kernel
theorem dX11_trackOf_31 : decode cX11_trackOf 31 = .ok (.iload_n 1, 1) := by decide +kernel
theorem dX11_trackOf_32 : decode cX11_trackOf 32 = .ok (.aload_n 0, 1) := by decide +kernel
theorem dX11_trackOf_33 : decode cX11_trackOf 33 = .ok (.getfield 10, 3) := by decide +kernel
theorem dX11_trackOf_36 : decode cX11_trackOf 36 = .ok (.getfield 117, 3) := by decide +kernel
theorem dX11_trackOf_39 : decode cX11_trackOf 39 = .ok (.iconst 4, 1) := by decide +kernel
theorem dX11_trackOf_40 : decode cX11_trackOf 40 = .ok (.iaload, 1) := by decide +kernel
theorem dX11_trackOf_41 : decode cX11_trackOf 41 = .ok (.invokevirtual 238, 3) := by decide +kernel
theorem dX11_trackOf_44 : decode cX11_trackOf 44 = .ok (.aload_n 2, 1) := by decide +kernel
theorem dX11_trackOf_45 : decode cX11_trackOf 45 = .ok (.aload_n 0, 1) := by decide +kernel
theorem dX11_trackOf_46 : decode cX11_trackOf 46 = .ok (.getfield 59, 3) := by decide +kernel
theorem dX11_trackOf_49 : decode cX11_trackOf 49 = .ok (.putfield 423, 3) := by decide +kernel
theorem dX11_trackOf_52 : decode cX11_trackOf 52 = .ok (.aload_n 2, 1) := by decide +kernel
theorem dX11_trackOf_53 : decode cX11_trackOf 53 = .ok (.areturn, 1) := by decide +kernel
set_option maxRecDepth 20000 in
theorem ggX11_matchOf_X11_requireFrame : GoodIn wsX11_matchOf wsX11_requireFrame := goodIn_ca (goodIn_r _ [7, 8, 9, 2, 10, 11, 12, 13, 14, 15, 133, 134, 135, 136, 137, 138, 139, 140, 141, 142, 143, 144, 145, 146, 147, 148, 149, 150] (by decide +kernel) (by decide +kernel)) (goodIn_sub (fun _ h => List.mem_cons_of_mem _ (List.mem_append_right _ h)) (by decide +kernel))
set_option maxRecDepth 20000 in
theorem gX11_matchOf_X11_requireFrame : GoodIn wsX11_matchOf (wsV RX11 137 RX11 yX11_requireFrame wsX11_requireFrame) := goodIn_app (goodIn_of _ (by decide +kernel)) ggX11_matchOf_X11_requireFrame
set_option maxRecDepth 20000 in
theorem ggX11_matchOf_X11_requirePixel : GoodIn wsX11_matchOf wsX11_requirePixel := goodIn_ca (goodIn_r _ [19, 8, 9, 2, 20, 21, 22, 13, 23, 24, 25, 133, 134, 135, 136, 137, 138, 139, 140, 141, 142, 143, 144, 145, 146, 147, 148, 149, 150] (by decide +kernel) (by decide +kernel)) (goodIn_sub (fun _ h => List.mem_cons_of_mem _ (List.mem_append_right _ h)) (by decide +kernel))
set_option maxRecDepth 20000 in
theorem gX11_matchOf_X11_requirePixel : GoodIn wsX11_matchOf (wsV RX11 143 RX11 yX11_requirePixel wsX11_requirePixel) := goodIn_app (goodIn_of _ (by decide +kernel)) ggX11_matchOf_X11_requirePixel
set_option maxRecDepth 20000 in
theorem ggX11_matchOf_X11_currentOrientation : GoodIn wsX11_matchOf wsX11_currentOrientation := goodIn_r _ [29, 30, 31, 32, 2, 33, 34, 35, 36, 13, 37, 38, 39, 40, 41, 15, 42, 43, 44, 45, 46, 47, 11, 12, 14, 48, 49, 50, 51, 52, 53, 25, 24, 54, 55, 56, 57, 58, 59, 60, 61, 62, 63, 64, 65, 66, 67, 68, 69, 70, 71, 72, 73, 74, 75, 76, 77, 78, 79, 80, 81, 82, 83, 84, 85, 86, 87, 88, 89, 90, 91, 92, 93, 94, 95, 96, 97, 98, 99, 100, 101, 102, 103, 104, 133, 134, 135, 136, 137, 138, 139, 140, 141, 151, 152, 153, 154, 155, 156, 142, 143, 144, 145, 146, 147, 148, 149, 150, 157, 158, 159, 160, 161, 162] (by decide +kernel) (by decide +kernel)
set_option maxRecDepth 20000 in
theorem gX11_matchOf_X11_currentOrientation : GoodIn wsX11_matchOf (wsV RX11 174 RX11 yX11_currentOrientation wsX11_currentOrientation) := goodIn_app (goodIn_of _ (by decide +kernel)) ggX11_matchOf_X11_currentOrientation
set_option maxRecDepth 20000 in
theorem ggX11_matchOf_X5_search : GoodIn wsX11_matchOf wsX5_search := goodIn_r _ [109, 110, 111, 112, 94, 40, 95, 113, 102, 103, 60, 104, 63, 114, 86, 87, 13, 88, 46, 24, 25, 115, 116, 117, 118, 68, 101, 119, 120, 121, 122, 69, 123, 90, 91, 92, 52, 53, 93, 47, 11, 12, 14, 15, 85, 124, 125, 126, 108, 127, 128, 129, 130, 131, 132, 163, 164, 165, 166, 167, 168, 142, 143, 144, 145, 146, 147, 148, 149, 150, 151, 152, 153, 154, 155, 156, 157, 158] (by decide +kernel) (by decide +kernel)
set_option maxRecDepth 20000 in
theorem gX11_matchOf_X5_search : GoodIn wsX11_matchOf (wsV RX11 424 RX5 yX5_search wsX5_search) := goodIn_app (goodIn_of _ (by decide +kernel)) ggX11_matchOf_X5_search
theorem dX11_matchOf_0 : decode cX11_matchOf 0 = .ok (.aload_n 0, 1) := by decide +kernel
theorem dX11_matchOf_1 : decode cX11_matchOf 1 = .ok (.iload_n 1, 1) := by decide +kernel
theorem dX11_matchOf_2 : decode cX11_matchOf 2 = .ok (.invokevirtual 137, 3) := by decide +kernel
theorem dX11_matchOf_5 : decode cX11_matchOf 5 = .ok (.aload_n 0, 1) := by decide +kernel
theorem dX11_matchOf_6 : decode cX11_matchOf 6 = .ok (.iload 4, 2) := by decide +kernel
theorem dX11_matchOf_8 : decode cX11_matchOf 8 = .ok (.invokevirtual 137, 3) := by decide +kernel
theorem dX11_matchOf_11 : decode cX11_matchOf 11 = .ok (.aload_n 0, 1) := by decide +kernel
theorem dX11_matchOf_12 : decode cX11_matchOf 12 = .ok (.iload_n 2, 1) := by decide +kernel
theorem dX11_matchOf_13 : decode cX11_matchOf 13 = .ok (.iload_n 3, 1) := by decide +kernel
theorem dX11_matchOf_14 : decode cX11_matchOf 14 = .ok (.invokevirtual 143, 3) := by decide +kernel
theorem dX11_matchOf_17 : decode cX11_matchOf 17 = .ok (.aload_n 0, 1) := by decide +kernel
theorem dX11_matchOf_18 : decode cX11_matchOf 18 = .ok (.getfield 40, 3) := by decide +kernel
theorem dX11_matchOf_21 : decode cX11_matchOf 21 = .ok (.aload_n 0, 1) := by decide +kernel
theorem dX11_matchOf_22 : decode cX11_matchOf 22 = .ok (.getfield 10, 3) := by decide +kernel
theorem dX11_matchOf_25 : decode cX11_matchOf 25 = .ok (.aload_n 0, 1) := by decide +kernel
theorem dX11_matchOf_26 : decode cX11_matchOf 26 = .ok (.invokevirtual 174, 3) := by decide +kernel
theorem dX11_matchOf_29 : decode cX11_matchOf 29 = .ok (.iload_n 1, 1) := by decide +kernel
theorem dX11_matchOf_30 : decode cX11_matchOf 30 = .ok (.iload_n 2, 1) := by decide +kernel
theorem dX11_matchOf_31 : decode cX11_matchOf 31 = .ok (.iload_n 3, 1) := by decide +kernel
theorem dX11_matchOf_32 : decode cX11_matchOf 32 = .ok (.iload 4, 2) := by decide +kernel
theorem dX11_matchOf_34 : decode cX11_matchOf 34 = .ok (.invokevirtual 424, 3) := by decide +kernel
theorem dX11_matchOf_37 : decode cX11_matchOf 37 = .ok (.aload_n 0, 1) := by decide +kernel
theorem dX11_matchOf_38 : decode cX11_matchOf 38 = .ok (.getfield 40, 3) := by decide +kernel
theorem dX11_matchOf_41 : decode cX11_matchOf 41 = .ok (.areturn, 1) := by decide +kernel
set_option maxRecDepth 20000 in
theorem ggX11_errorOfLoop_X11_currentOrientation : GoodIn wsX11_errorOfLoop wsX11_currentOrientation := goodIn_r _ [17, 18, 19, 20, 2, 21, 22, 23, 24, 25, 26, 27, 28, 11, 29, 30, 31, 32, 33, 34, 35, 36, 37, 38, 39, 40, 41, 42, 43, 44, 45, 46, 47, 48, 49, 50, 51, 52, 53, 54, 55, 56, 57, 58, 59, 60, 61, 62, 63, 64, 65, 66, 67, 68, 69, 70, 71, 72, 73, 74, 75, 76, 77, 78, 79, 80, 81, 82, 83, 84, 85, 86, 87, 10, 12, 88, 89, 90, 91, 92, 93, 94, 95, 96, 135, 136, 137, 138, 139, 140, 141, 142, 143, 129, 130, 131, 132, 133, 134, 144, 145, 146, 147, 148, 149, 150, 151, 152, 163, 164, 153, 154, 155, 156] (by decide +kernel) (by decide +kernel)
set_option maxRecDepth 20000 in
theorem gX11_errorOfLoop_X11_currentOrientation : GoodIn wsX11_errorOfLoop (wsV RX11 174 RX11 yX11_currentOrientation wsX11_currentOrientation) := goodIn_app (goodIn_of _ (by decide +kernel)) ggX11_errorOfLoop_X11_currentOrientation
set_option maxRecDepth 20000 in
theorem ggX11_errorOfLoop_X5_search : GoodIn wsX11_errorOfLoop wsX5_search := goodIn_r _ [101, 102, 103, 104, 10, 11, 12, 105, 94, 95, 54, 96, 57, 106, 80, 81, 25, 82, 35, 47, 46, 107, 108, 109, 110, 62, 93, 111, 112, 113, 114, 63, 115, 84, 85, 86, 44, 45, 87, 36, 37, 38, 39, 30, 79, 116, 117, 118, 100, 119, 120, 121, 122, 123, 124, 157, 158, 159, 160, 161, 162, 144, 145, 146, 147, 148, 149, 150, 151, 152, 129, 130, 131, 132, 133, 134, 163, 164] (by decide +kernel) (by decide +kernel)
set_option maxRecDepth 20000 in
theorem gX11_errorOfLoop_X5_search : GoodIn wsX11_errorOfLoop (wsV RX11 424 RX5 yX5_search wsX5_search) := goodIn_app (goodIn_of _ (by decide +kernel)) ggX11_errorOfLoop_X5_search
set_option maxRecDepth 20000 in
theorem ggX11_errorOfLoop_X5_exists : GoodIn wsX11_errorOfLoop wsX5_exists := goodIn_r _ [128, 102, 157, 158, 159, 160, 161, 162] (by decide +kernel) (by decide +kernel)
set_option maxRecDepth 20000 in
theorem gX11_errorOfLoop_X5_exists : GoodIn wsX11_errorOfLoop (wsV RX11 197 RX5 yX5_exists wsX5_exists) := goodIn_app (goodIn_of _ (by decide +kernel)) ggX11_errorOfLoop_X5_exists
theorem dX11_errorOfLoop_0 : decode cX11_errorOfLoop 0 = .ok (.aload_n 0, 1) := by decide +kernel
theorem dX11_errorOfLoop_1 : decode cX11_errorOfLoop 1 = .ok (.invokevirtual 174, 3) := by decide +kernel
theorem dX11_errorOfLoop_4 : decode cX11_errorOfLoop 4 = .ok (.astore 4, 2) := by decide +kernel
theorem dX11_errorOfLoop_6 : decode cX11_errorOfLoop 6 = .ok (.aload 4, 2) := by decide +kernel
theorem dX11_errorOfLoop_8 : decode cX11_errorOfLoop 8 = .ok (.getfield 235, 3) := by decide +kernel
theorem dX11_errorOfLoop_11 : decode cX11_errorOfLoop 11 = .ok (.istore 5, 2) := by decide +kernel
theorem dX11_errorOfLoop_13 : decode cX11_errorOfLoop 13 = .ok (.aload_n 0, 1) := by decide +kernel
theorem dX11_errorOfLoop_14 : decode cX11_errorOfLoop 14 = .ok (.getfield 10, 3) := by decide +kernel
theorem dX11_errorOfLoop_17 : decode cX11_errorOfLoop 17 = .ok (.getfield 107, 3) := by decide +kernel
theorem dX11_errorOfLoop_20 : decode cX11_errorOfLoop 20 = .ok (.getfield 290, 3) := by decide +kernel
theorem dX11_errorOfLoop_23 : decode cX11_errorOfLoop 23 = .ok (.iload_n 1, 1) := by decide +kernel
theorem dX11_errorOfLoop_24 : decode cX11_errorOfLoop 24 = .ok (.iaload, 1) := by decide +kernel
theorem dX11_errorOfLoop_25 : decode cX11_errorOfLoop 25 = .ok (.istore 6, 2) := by decide +kernel
theorem dX11_errorOfLoop_27 : decode cX11_errorOfLoop 27 = .ok (.aload_n 0, 1) := by decide +kernel
theorem dX11_errorOfLoop_28 : decode cX11_errorOfLoop 28 = .ok (.getfield 10, 3) := by decide +kernel
theorem dX11_errorOfLoop_31 : decode cX11_errorOfLoop 31 = .ok (.getfield 107, 3) := by decide +kernel
theorem dX11_errorOfLoop_34 : decode cX11_errorOfLoop 34 = .ok (.getfield 292, 3) := by decide +kernel
theorem dX11_errorOfLoop_37 : decode cX11_errorOfLoop 37 = .ok (.iload_n 1, 1) := by decide +kernel
theorem dX11_errorOfLoop_38 : decode cX11_errorOfLoop 38 = .ok (.iaload, 1) := by decide +kernel
theorem dX11_errorOfLoop_39 : decode cX11_errorOfLoop 39 = .ok (.istore 7, 2) := by decide +kernel
theorem dX11_errorOfLoop_41 : decode cX11_errorOfLoop 41 = .ok (.aload_n 0, 1) := by decide +kernel
theorem dX11_errorOfLoop_42 : decode cX11_errorOfLoop 42 = .ok (.getfield 40, 3) := by decide +kernel
theorem dX11_errorOfLoop_45 : decode cX11_errorOfLoop 45 = .ok (.aload_n 0, 1) := by decide +kernel
theorem dX11_errorOfLoop_46 : decode cX11_errorOfLoop 46 = .ok (.getfield 10, 3) := by decide +kernel
theorem dX11_errorOfLoop_49 : decode cX11_errorOfLoop 49 = .ok (.aload 4, 2) := by decide +kernel
theorem dX11_errorOfLoop_51 : decode cX11_errorOfLoop 51 = .ok (.iload 5, 2) := by decide +kernel
theorem dX11_errorOfLoop_53 : decode cX11_errorOfLoop 53 = .ok (.iload 6, 2) := by decide +kernel
theorem dX11_errorOfLoop_55 : decode cX11_errorOfLoop 55 = .ok (.iload 7, 2) := by decide +kernel
theorem dX11_errorOfLoop_57 : decode cX11_errorOfLoop 57 = .ok (.iload_n 2, 1) := by decide +kernel
theorem dX11_errorOfLoop_58 : decode cX11_errorOfLoop 58 = .ok (.invokevirtual 424, 3) := by decide +kernel
theorem dX11_errorOfLoop_61 : decode cX11_errorOfLoop 61 = .ok (.aload_n 0, 1) := by decide +kernel
theorem dX11_errorOfLoop_62 : decode cX11_errorOfLoop 62 = .ok (.getfield 40, 3) := by decide +kernel
theorem dX11_errorOfLoop_65 : decode cX11_errorOfLoop 65 = .ok (.invokevirtual 197, 3) := by decide +kernel
theorem dX11_errorOfLoop_68 : decode cX11_errorOfLoop 68 = .ok (.ifCond .eq 32, 3) := by decide +kernel
theorem dX11_errorOfLoop_71 : decode cX11_errorOfLoop 71 = .ok (.aload_n 0, 1) := by decide +kernel
theorem dX11_errorOfLoop_72 : decode cX11_errorOfLoop 72 = .ok (.getfield 40, 3) := by decide +kernel
theorem dX11_errorOfLoop_75 : decode cX11_errorOfLoop 75 = .ok (.aload_n 0, 1) := by decide +kernel
theorem dX11_errorOfLoop_76 : decode cX11_errorOfLoop 76 = .ok (.getfield 10, 3) := by decide +kernel
theorem dX11_errorOfLoop_79 : decode cX11_errorOfLoop 79 = .ok (.aload 4, 2) := by decide +kernel
theorem dX11_errorOfLoop_81 : decode cX11_errorOfLoop 81 = .ok (.iload_n 2, 1) := by decide +kernel
theorem dX11_errorOfLoop_82 : decode cX11_errorOfLoop 82 = .ok (.aload_n 0, 1) := by decide +kernel
theorem dX11_errorOfLoop_83 : decode cX11_errorOfLoop 83 = .ok (.getfield 40, 3) := by decide +kernel
theorem dX11_errorOfLoop_86 : decode cX11_errorOfLoop 86 = .ok (.getfield 201, 3) := by decide +kernel
theorem dX11_errorOfLoop_89 : decode cX11_errorOfLoop 89 = .ok (.aload_n 0, 1) := by decide +kernel
theorem dX11_errorOfLoop_90 : decode cX11_errorOfLoop 90 = .ok (.getfield 40, 3) := by decide +kernel
theorem dX11_errorOfLoop_93 : decode cX11_errorOfLoop 93 = .ok (.getfield 204, 3) := by decide +kernel
theorem dX11_errorOfLoop_96 : decode cX11_errorOfLoop 96 = .ok (.iload_n 3, 1) := by decide +kernel
theorem dX11_errorOfLoop_97 : decode cX11_errorOfLoop 97 = .ok (.invokevirtual 424, 3) := by decide +kernel
theorem dX11_errorOfLoop_100 : decode cX11_errorOfLoop 100 = .ok (.aload_n 0, 1) := by decide +kernel
theorem dX11_errorOfLoop_101 : decode cX11_errorOfLoop 101 = .ok (.getfield 40, 3) := by decide +kernel
theorem dX11_errorOfLoop_104 : decode cX11_errorOfLoop 104 = .ok (.invokevirtual 197, 3) := by decide +kernel
theorem dX11_errorOfLoop_107 : decode cX11_errorOfLoop 107 = .ok (.ifCond .eq 33, 3) := by decide +kernel
theorem dX11_errorOfLoop_110 : decode cX11_errorOfLoop 110 = .ok (.aload_n 0, 1) := by decide +kernel
theorem dX11_errorOfLoop_111 : decode cX11_errorOfLoop 111 = .ok (.getfield 40, 3) := by decide +kernel
theorem dX11_errorOfLoop_114 : decode cX11_errorOfLoop 114 = .ok (.aload_n 0, 1) := by decide +kernel
theorem dX11_errorOfLoop_115 : decode cX11_errorOfLoop 115 = .ok (.getfield 10, 3) := by decide +kernel
theorem dX11_errorOfLoop_118 : decode cX11_errorOfLoop 118 = .ok (.aload 4, 2) := by decide +kernel
theorem dX11_errorOfLoop_120 : decode cX11_errorOfLoop 120 = .ok (.iload_n 3, 1) := by decide +kernel
theorem dX11_errorOfLoop_121 : decode cX11_errorOfLoop 121 = .ok (.aload_n 0, 1) := by decide +kernel
theorem dX11_errorOfLoop_122 : decode cX11_errorOfLoop 122 = .ok (.getfield 40, 3) := by decide +kernel
theorem dX11_errorOfLoop_125 : decode cX11_errorOfLoop 125 = .ok (.getfield 201, 3) := by decide +kernel
theorem dX11_errorOfLoop_128 : decode cX11_errorOfLoop 128 = .ok (.aload_n 0, 1) := by decide +kernel
theorem dX11_errorOfLoop_129 : decode cX11_errorOfLoop 129 = .ok (.getfield 40, 3) := by decide +kernel
theorem dX11_errorOfLoop_132 : decode cX11_errorOfLoop 132 = .ok (.getfield 204, 3) := by decide +kernel
theorem dX11_errorOfLoop_135 : decode cX11_errorOfLoop 135 = .ok (.iload 5, 2) := by decide +kernel
theorem dX11_errorOfLoop_137 : decode cX11_errorOfLoop 137 = .ok (.invokevirtual 424, 3) := by decide +kernel
theorem dX11_errorOfLoop_140 : decode cX11_errorOfLoop 140 = .ok (.aload_n 0, 1) := by decide +kernel
theorem dX11_errorOfLoop_141 : decode cX11_errorOfLoop 141 = .ok (.getfield 40, 3) := by decide +kernel
theorem dX11_errorOfLoop_144 : decode cX11_errorOfLoop 144 = .ok (.invokevirtual 197, 3) := by decide +kernel
theorem dX11_errorOfLoop_147 : decode cX11_errorOfLoop 147 = .ok (.ifCond .eq 33, 3) := by decide +kernel
theorem dX11_errorOfLoop_150 : decode cX11_errorOfLoop 150 = .ok (.aload_n 0, 1) := by decide +kernel
theorem dX11_errorOfLoop_151 : decode cX11_errorOfLoop 151 = .ok (.getfield 40, 3) := by decide +kernel
theorem dX11_errorOfLoop_154 : decode cX11_errorOfLoop 154 = .ok (.getfield 201, 3) := by decide +kernel
theorem dX11_errorOfLoop_157 : decode cX11_errorOfLoop 157 = .ok (.iload 6, 2) := by decide +kernel
theorem dX11_errorOfLoop_159 : decode cX11_errorOfLoop 159 = .ok (.isub, 1) := by decide +kernel
theorem dX11_errorOfLoop_160 : decode cX11_errorOfLoop 160 = .ok (.invokestatic 368, 3) := by decide +kernel
theorem dX11_errorOfLoop_163 : decode cX11_errorOfLoop 163 = .ok (.aload_n 0, 1) := by decide +kernel
theorem dX11_errorOfLoop_164 : decode cX11_errorOfLoop 164 = .ok (.getfield 40, 3) := by decide +kernel
theorem dX11_errorOfLoop_167 : decode cX11_errorOfLoop 167 = .ok (.getfield 204, 3) := by decide +kernel
theorem dX11_errorOfLoop_170 : decode cX11_errorOfLoop 170 = .ok (.iload 7, 2) := by decide +kernel
theorem dX11_errorOfLoop_172 : decode cX11_errorOfLoop 172 = .ok (.isub, 1) := by decide +kernel
theorem dX11_errorOfLoop_173 : decode cX11_errorOfLoop 173 = .ok (.invokestatic 368, 3) := by decide +kernel
theorem dX11_errorOfLoop_176 : decode cX11_errorOfLoop 176 = .ok (.iadd, 1) := by decide +kernel
theorem dX11_errorOfLoop_177 : decode cX11_errorOfLoop 177 = .ok (.goto 4, 3) := by decide +kernel
theorem dX11_errorOfLoop_180 : decode cX11_errorOfLoop 180 = .ok (.iconst (-1), 1) := by decide +kernel
theorem dX11_errorOfLoop_181 : decode cX11_errorOfLoop 181 = .ok (.ireturn, 1) := by decide +kernel
set_option maxRecDepth 20000 in
theorem ggX11_frameOfGap_X8_gapAfter : GoodIn wsX11_frameOfGap wsX8_gapAfter := goodIn_r _ [7, 8, 9, 10, 11, 6, 12, 13, 14, 15, 16, 17, 18, 19, 20, 21, 22, 23, 24, 25, 26, 27, 28, 29, 30, 31, 32, 33, 34, 35, 36, 37, 38, 39, 40, 41, 51, 52, 53, 54, 55, 56, 57, 58, 59, 60, 61] (by decide +kernel) (by decide +kernel)
set_option maxRecDepth 20000 in
theorem gX11_frameOfGap_X8_gapAfter : GoodIn wsX11_frameOfGap (wsV RX11 298 RX8 yX8_gapAfter wsX8_gapAfter) := goodIn_app (goodIn_of _ (by decide +kernel)) ggX11_frameOfGap_X8_gapAfter
theorem dX11_frameOfGap_0 : decode cX11_frameOfGap 0 = .ok (.iconst 0, 1) := by decide +kernel
theorem dX11_frameOfGap_1 : decode cX11_frameOfGap 1 = .ok (.istore_n 2, 1) := by decide +kernel
theorem dX11_frameOfGap_2 : decode cX11_frameOfGap 2 = .ok (.iconst 0, 1) := by decide +kernel
theorem dX11_frameOfGap_3 : decode cX11_frameOfGap 3 = .ok (.istore_n 3, 1) := by decide +kernel
theorem dX11_frameOfGap_4 : decode cX11_frameOfGap 4 = .ok (.iload_n 3, 1) := by decide +kernel
theorem dX11_frameOfGap_5 : decode cX11_frameOfGap 5 = .ok (.aload_n 0, 1) := by decide +kernel
theorem dX11_frameOfGap_6 : decode cX11_frameOfGap 6 = .ok (.getfield 10, 3) := by decide +kernel
theorem dX11_frameOfGap_9 : decode cX11_frameOfGap 9 = .ok (.getfield 95, 3) := by decide +kernel
theorem dX11_frameOfGap_12 : decode cX11_frameOfGap 12 = .ok (.if_icmp .ge 30, 3) := by decide +kernel
theorem dX11_frameOfGap_15 : decode cX11_frameOfGap 15 = .ok (.aload_n 0, 1) := by decide +kernel
theorem dX11_frameOfGap_16 : decode cX11_frameOfGap 16 = .ok (.getfield 10, 3) := by decide +kernel
theorem dX11_frameOfGap_19 : decode cX11_frameOfGap 19 = .ok (.iload_n 3, 1) := by decide +kernel
theorem dX11_frameOfGap_20 : decode cX11_frameOfGap 20 = .ok (.invokevirtual 298, 3) := by decide +kernel
theorem dX11_frameOfGap_23 : decode cX11_frameOfGap 23 = .ok (.ifCond .le 13, 3) := by decide +kernel
theorem dX11_frameOfGap_26 : decode cX11_frameOfGap 26 = .ok (.iload_n 2, 1) := by decide +kernel
theorem dX11_frameOfGap_27 : decode cX11_frameOfGap 27 = .ok (.iload_n 1, 1) := by decide +kernel
theorem dX11_frameOfGap_28 : decode cX11_frameOfGap 28 = .ok (.if_icmp .ne 5, 3) := by decide +kernel
theorem dX11_frameOfGap_31 : decode cX11_frameOfGap 31 = .ok (.iload_n 3, 1) := by decide +kernel
theorem dX11_frameOfGap_32 : decode cX11_frameOfGap 32 = .ok (.ireturn, 1) := by decide +kernel
theorem dX11_frameOfGap_33 : decode cX11_frameOfGap 33 = .ok (.iinc 2 1, 3) := by decide +kernel
theorem dX11_frameOfGap_36 : decode cX11_frameOfGap 36 = .ok (.iinc 3 1, 3) := by decide +kernel
theorem dX11_frameOfGap_39 : decode cX11_frameOfGap 39 = .ok (.goto (-35), 3) := by decide +kernel
theorem dX11_frameOfGap_42 : decode cX11_frameOfGap 42 = .ok (.iconst (-1), 1) := by decide +kernel
theorem dX11_frameOfGap_43 : decode cX11_frameOfGap 43 = .ok (.ireturn, 1) := by decide +kernel
set_option maxRecDepth 20000 in
theorem ggX11_averageMelt_X9_meltBetween : GoodIn wsX11_averageMelt wsX9_meltBetween := goodIn_r _ [8, 9, 10, 11, 7, 12, 13, 14, 15, 16, 17, 18, 19, 20, 21, 22, 23, 24, 25, 26, 27, 28, 29, 30, 31, 32, 55, 56, 57] (by decide +kernel) (by decide +kernel)
set_option maxRecDepth 20000 in
theorem gX11_averageMelt_X9_meltBetween : GoodIn wsX11_averageMelt (wsV RX11 346 RX9 yX9_meltBetween wsX9_meltBetween) := goodIn_app (goodIn_of _ (by decide +kernel)) ggX11_averageMelt_X9_meltBetween
set_option maxRecDepth 20000 in
theorem ggX11_averageMelt_X11_quotient : GoodIn wsX11_averageMelt wsX11_quotient := goodIn_r _ [36] (by decide +kernel) (by decide +kernel)
set_option maxRecDepth 20000 in
theorem gX11_averageMelt_X11_quotient : GoodIn wsX11_averageMelt (va_wsS RX11 250 yX11_quotient wsX11_quotient) := goodIn_app (goodIn_of _ (by decide +kernel)) ggX11_averageMelt_X11_quotient
theorem dX11_averageMelt_0 : decode cX11_averageMelt 0 = .ok (.iload_n 1, 1) := by decide +kernel
theorem dX11_averageMelt_1 : decode cX11_averageMelt 1 = .ok (.iload_n 2, 1) := by decide +kernel
theorem dX11_averageMelt_2 : decode cX11_averageMelt 2 = .ok (.if_icmp .le 6, 3) := by decide +kernel
theorem dX11_averageMelt_5 : decode cX11_averageMelt 5 = .ok (.bipush (-2), 2) := by decide +kernel
theorem dX11_averageMelt_7 : decode cX11_averageMelt 7 = .ok (.ireturn, 1) := by decide +kernel
theorem dX11_averageMelt_8 : decode cX11_averageMelt 8 = .ok (.iconst 0, 1) := by decide +kernel
theorem dX11_averageMelt_9 : decode cX11_averageMelt 9 = .ok (.istore_n 3, 1) := by decide +kernel
theorem dX11_averageMelt_10 : decode cX11_averageMelt 10 = .ok (.iconst 0, 1) := by decide +kernel
theorem dX11_averageMelt_11 : decode cX11_averageMelt 11 = .ok (.istore 4, 2) := by decide +kernel
theorem dX11_averageMelt_13 : decode cX11_averageMelt 13 = .ok (.iconst 0, 1) := by decide +kernel
theorem dX11_averageMelt_14 : decode cX11_averageMelt 14 = .ok (.istore 5, 2) := by decide +kernel
theorem dX11_averageMelt_16 : decode cX11_averageMelt 16 = .ok (.iload 5, 2) := by decide +kernel
theorem dX11_averageMelt_18 : decode cX11_averageMelt 18 = .ok (.aload_n 0, 1) := by decide +kernel
theorem dX11_averageMelt_19 : decode cX11_averageMelt 19 = .ok (.getfield 10, 3) := by decide +kernel
theorem dX11_averageMelt_22 : decode cX11_averageMelt 22 = .ok (.getfield 110, 3) := by decide +kernel
theorem dX11_averageMelt_25 : decode cX11_averageMelt 25 = .ok (.if_icmp .ge 39, 3) := by decide +kernel
theorem dX11_averageMelt_28 : decode cX11_averageMelt 28 = .ok (.aload_n 0, 1) := by decide +kernel
theorem dX11_averageMelt_29 : decode cX11_averageMelt 29 = .ok (.getfield 10, 3) := by decide +kernel
theorem dX11_averageMelt_32 : decode cX11_averageMelt 32 = .ok (.getfield 312, 3) := by decide +kernel
theorem dX11_averageMelt_35 : decode cX11_averageMelt 35 = .ok (.iload 5, 2) := by decide +kernel
theorem dX11_averageMelt_37 : decode cX11_averageMelt 37 = .ok (.aaload, 1) := by decide +kernel
theorem dX11_averageMelt_38 : decode cX11_averageMelt 38 = .ok (.iload_n 1, 1) := by decide +kernel
theorem dX11_averageMelt_39 : decode cX11_averageMelt 39 = .ok (.iload_n 2, 1) := by decide +kernel
theorem dX11_averageMelt_40 : decode cX11_averageMelt 40 = .ok (.invokevirtual 346, 3) := by decide +kernel
theorem dX11_averageMelt_43 : decode cX11_averageMelt 43 = .ok (.istore 6, 2) := by decide +kernel
theorem dX11_averageMelt_45 : decode cX11_averageMelt 45 = .ok (.iload 6, 2) := by decide +kernel
theorem dX11_averageMelt_47 : decode cX11_averageMelt 47 = .ok (.ifCond .lt 11, 3) := by decide +kernel
theorem dX11_averageMelt_50 : decode cX11_averageMelt 50 = .ok (.iload_n 3, 1) := by decide +kernel
theorem dX11_averageMelt_51 : decode cX11_averageMelt 51 = .ok (.iload 6, 2) := by decide +kernel
theorem dX11_averageMelt_53 : decode cX11_averageMelt 53 = .ok (.iadd, 1) := by decide +kernel
theorem dX11_averageMelt_54 : decode cX11_averageMelt 54 = .ok (.istore_n 3, 1) := by decide +kernel
theorem dX11_averageMelt_55 : decode cX11_averageMelt 55 = .ok (.iinc 4 1, 3) := by decide +kernel
theorem dX11_averageMelt_58 : decode cX11_averageMelt 58 = .ok (.iinc 5 1, 3) := by decide +kernel
theorem dX11_averageMelt_61 : decode cX11_averageMelt 61 = .ok (.goto (-45), 3) := by decide +kernel
theorem dX11_averageMelt_64 : decode cX11_averageMelt 64 = .ok (.iload 4, 2) := by decide +kernel
theorem dX11_averageMelt_66 : decode cX11_averageMelt 66 = .ok (.ifCond .ne 7, 3) := by decide +kernel
theorem dX11_averageMelt_69 : decode cX11_averageMelt 69 = .ok (.iconst (-1), 1) := by decide +kernel
theorem dX11_averageMelt_70 : decode cX11_averageMelt 70 = .ok (.goto 9, 3) := by decide +kernel
theorem dX11_averageMelt_73 : decode cX11_averageMelt 73 = .ok (.iload_n 3, 1) := by decide +kernel
theorem dX11_averageMelt_74 : decode cX11_averageMelt 74 = .ok (.iload 4, 2) := by decide +kernel
theorem dX11_averageMelt_76 : decode cX11_averageMelt 76 = .ok (.invokestatic 250, 3) := by decide +kernel
theorem dX11_averageMelt_79 : decode cX11_averageMelt 79 = .ok (.ireturn, 1) := by decide +kernel
set_option maxRecDepth 20000 in
theorem ggX11_registeredAt_X6_xShiftOf : GoodIn wsX11_registeredAt wsX6_xShiftOf := goodIn_r _ [6, 7, 8, 9, 10, 5, 11, 12, 47, 48, 49, 50, 51, 52] (by decide +kernel) (by decide +kernel)
set_option maxRecDepth 20000 in
theorem gX11_registeredAt_X6_xShiftOf : GoodIn wsX11_registeredAt (wsV RX11 184 RX6 yX6_xShiftOf wsX6_xShiftOf) := goodIn_app (goodIn_of _ (by decide +kernel)) ggX11_registeredAt_X6_xShiftOf
set_option maxRecDepth 20000 in
theorem ggX11_registeredAt_X6_yShiftOf : GoodIn wsX11_registeredAt wsX6_yShiftOf := goodIn_r _ [16, 17, 8, 9, 10, 5, 11, 12, 47, 48, 49, 50, 51, 52] (by decide +kernel) (by decide +kernel)
set_option maxRecDepth 20000 in
theorem gX11_registeredAt_X6_yShiftOf : GoodIn wsX11_registeredAt (wsV RX11 187 RX6 yX6_yShiftOf wsX6_yShiftOf) := goodIn_app (goodIn_of _ (by decide +kernel)) ggX11_registeredAt_X6_yShiftOf
set_option maxRecDepth 20000 in
theorem ggX11_registeredAt_X6_covers : GoodIn wsX11_registeredAt wsX6_covers := goodIn_r _ [11, 12, 47, 48, 49, 50, 51, 52] (by decide +kernel) (by decide +kernel)
set_option maxRecDepth 20000 in
theorem gX11_registeredAt_X6_covers : GoodIn wsX11_registeredAt (wsV RX11 178 RX6 yX6_covers wsX6_covers) := goodIn_app (goodIn_of _ (by decide +kernel)) ggX11_registeredAt_X6_covers
set_option maxRecDepth 20000 in
theorem ggX11_registeredAt_X8_hasPixel : GoodIn wsX11_registeredAt wsX8_hasPixel := goodIn_r _ [23, 24, 25, 53, 54, 55, 56, 57, 58, 59, 60, 61] (by decide +kernel) (by decide +kernel)
set_option maxRecDepth 20000 in
theorem gX11_registeredAt_X8_hasPixel : GoodIn wsX11_registeredAt (wsV RX11 154 RX8 yX8_hasPixel wsX8_hasPixel) := goodIn_app (goodIn_of _ (by decide +kernel)) ggX11_registeredAt_X8_hasPixel
set_option maxRecDepth 20000 in
theorem ggX11_registeredAt_X8_brightnessAt : GoodIn wsX11_registeredAt wsX8_brightnessAt := goodIn_r _ [29, 30, 31, 32, 33, 34, 22, 35, 36, 37, 20, 21, 23, 24, 25, 53, 54, 55, 56, 57, 58, 59, 60, 61, 62, 63] (by decide +kernel) (by decide +kernel)
set_option maxRecDepth 20000 in
theorem gX11_registeredAt_X8_brightnessAt : GoodIn wsX11_registeredAt (wsV RX11 147 RX8 yX8_brightnessAt wsX8_brightnessAt) := goodIn_app (goodIn_of _ (by decide +kernel)) ggX11_registeredAt_X8_brightnessAt
theorem dX11_registeredAt_0 : decode cX11_registeredAt 0 = .ok (.iload_n 3, 1) := by decide +kernel
theorem dX11_registeredAt_1 : decode cX11_registeredAt 1 = .ok (.aload_n 1, 1) := by decide +kernel
theorem dX11_registeredAt_2 : decode cX11_registeredAt 2 = .ok (.iload_n 2, 1) := by decide +kernel
theorem dX11_registeredAt_3 : decode cX11_registeredAt 3 = .ok (.invokevirtual 184, 3) := by decide +kernel
theorem dX11_registeredAt_6 : decode cX11_registeredAt 6 = .ok (.iadd, 1) := by decide +kernel
theorem dX11_registeredAt_7 : decode cX11_registeredAt 7 = .ok (.istore 5, 2) := by decide +kernel
theorem dX11_registeredAt_9 : decode cX11_registeredAt 9 = .ok (.iload 4, 2) := by decide +kernel
theorem dX11_registeredAt_11 : decode cX11_registeredAt 11 = .ok (.aload_n 1, 1) := by decide +kernel
theorem dX11_registeredAt_12 : decode cX11_registeredAt 12 = .ok (.iload_n 2, 1) := by decide +kernel
theorem dX11_registeredAt_13 : decode cX11_registeredAt 13 = .ok (.invokevirtual 187, 3) := by decide +kernel
theorem dX11_registeredAt_16 : decode cX11_registeredAt 16 = .ok (.iadd, 1) := by decide +kernel
theorem dX11_registeredAt_17 : decode cX11_registeredAt 17 = .ok (.istore 6, 2) := by decide +kernel
theorem dX11_registeredAt_19 : decode cX11_registeredAt 19 = .ok (.aload_n 1, 1) := by decide +kernel
theorem dX11_registeredAt_20 : decode cX11_registeredAt 20 = .ok (.iload_n 2, 1) := by decide +kernel
theorem dX11_registeredAt_21 : decode cX11_registeredAt 21 = .ok (.invokevirtual 178, 3) := by decide +kernel
theorem dX11_registeredAt_24 : decode cX11_registeredAt 24 = .ok (.ifCond .eq 21, 3) := by decide +kernel
theorem dX11_registeredAt_27 : decode cX11_registeredAt 27 = .ok (.aload_n 0, 1) := by decide +kernel
theorem dX11_registeredAt_28 : decode cX11_registeredAt 28 = .ok (.getfield 10, 3) := by decide +kernel
theorem dX11_registeredAt_31 : decode cX11_registeredAt 31 = .ok (.iload 5, 2) := by decide +kernel
theorem dX11_registeredAt_33 : decode cX11_registeredAt 33 = .ok (.iload 6, 2) := by decide +kernel
theorem dX11_registeredAt_35 : decode cX11_registeredAt 35 = .ok (.invokevirtual 154, 3) := by decide +kernel
theorem dX11_registeredAt_38 : decode cX11_registeredAt 38 = .ok (.ifCond .eq 7, 3) := by decide +kernel
theorem dX11_registeredAt_41 : decode cX11_registeredAt 41 = .ok (.iconst 1, 1) := by decide +kernel
theorem dX11_registeredAt_42 : decode cX11_registeredAt 42 = .ok (.goto 4, 3) := by decide +kernel
theorem dX11_registeredAt_45 : decode cX11_registeredAt 45 = .ok (.iconst 0, 1) := by decide +kernel
theorem dX11_registeredAt_46 : decode cX11_registeredAt 46 = .ok (.istore 7, 2) := by decide +kernel
theorem dX11_registeredAt_48 : decode cX11_registeredAt 48 = .ok (.iload 7, 2) := by decide +kernel
theorem dX11_registeredAt_50 : decode cX11_registeredAt 50 = .ok (.ifCond .eq 18, 3) := by decide +kernel
theorem dX11_registeredAt_53 : decode cX11_registeredAt 53 = .ok (.aload_n 0, 1) := by decide +kernel
theorem dX11_registeredAt_54 : decode cX11_registeredAt 54 = .ok (.getfield 10, 3) := by decide +kernel
theorem dX11_registeredAt_57 : decode cX11_registeredAt 57 = .ok (.iload_n 2, 1) := by decide +kernel
theorem dX11_registeredAt_58 : decode cX11_registeredAt 58 = .ok (.iload 5, 2) := by decide +kernel
theorem dX11_registeredAt_60 : decode cX11_registeredAt 60 = .ok (.iload 6, 2) := by decide +kernel
theorem dX11_registeredAt_62 : decode cX11_registeredAt 62 = .ok (.invokevirtual 147, 3) := by decide +kernel
theorem dX11_registeredAt_65 : decode cX11_registeredAt 65 = .ok (.goto 4, 3) := by decide +kernel
theorem dX11_registeredAt_68 : decode cX11_registeredAt 68 = .ok (.iconst (-1), 1) := by decide +kernel
theorem dX11_registeredAt_69 : decode cX11_registeredAt 69 = .ok (.ireturn, 1) := by decide +kernel
set_option maxRecDepth 20000 in
theorem ggX12_init_X12_reset : GoodIn wsX12_init wsX12_reset := goodIn_r _ [32] (by decide +kernel) (by decide +kernel)
set_option maxRecDepth 20000 in
theorem gX12_init_X12_reset : GoodIn wsX12_init (va_wsS RX12 79 yX12_reset wsX12_reset) := goodIn_app (goodIn_of _ (by decide +kernel)) ggX12_init_X12_reset
