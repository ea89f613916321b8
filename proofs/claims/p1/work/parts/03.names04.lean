theorem dX11_puts_188 : decode cX11_puts 188 = .ok (.aload_n 0, 1) := by decide +kernel
theorem dX11_puts_189 : decode cX11_puts 189 = .ok (.bipush 73, 2) := by decide +kernel
theorem dX11_puts_191 : decode cX11_puts 191 = .ok (.iload 4, 2) := by decide +kernel
theorem dX11_puts_193 : decode cX11_puts 193 = .ok (.iadd, 1) := by decide +kernel
theorem dX11_puts_194 : decode cX11_puts 194 = .ok (.iload_n 1, 1) := by decide +kernel
theorem dX11_puts_195 : decode cX11_puts 195 = .ok (.invokevirtual 250, 3) := by decide +kernel
theorem dX11_puts_198 : decode cX11_puts 198 = .ok (.aload_n 0, 1) := by decide +kernel
theorem dX11_puts_199 : decode cX11_puts 199 = .ok (.sipush 146, 3) := by decide +kernel
theorem dX11_puts_202 : decode cX11_puts 202 = .ok (.iload 4, 2) := by decide +kernel
theorem dX11_puts_204 : decode cX11_puts 204 = .ok (.iadd, 1) := by decide +kernel
theorem dX11_puts_205 : decode cX11_puts 205 = .ok (.iconst 1, 1) := by decide +kernel
theorem dX11_puts_206 : decode cX11_puts 206 = .ok (.iload_n 1, 1) := by decide +kernel
theorem dX11_puts_207 : decode cX11_puts 207 = .ok (.ishl, 1) := by decide +kernel
theorem dX11_puts_208 : decode cX11_puts 208 = .ok (.invokevirtual 250, 3) := by decide +kernel
theorem dX11_puts_211 : decode cX11_puts 211 = .ok (.aload_n 0, 1) := by decide +kernel
theorem dX11_puts_212 : decode cX11_puts 212 = .ok (.iload_n 1, 1) := by decide +kernel
theorem dX11_puts_213 : decode cX11_puts 213 = .ok (.bipush 7, 2) := by decide +kernel
theorem dX11_puts_215 : decode cX11_puts 215 = .ok (.iload_n 2, 1) := by decide +kernel
theorem dX11_puts_216 : decode cX11_puts 216 = .ok (.iconst 0, 1) := by decide +kernel
theorem dX11_puts_217 : decode cX11_puts 217 = .ok (.invokevirtual 293, 3) := by decide +kernel
theorem dX11_puts_220 : decode cX11_puts 220 = .ok (.aload_n 0, 1) := by decide +kernel
theorem dX11_puts_221 : decode cX11_puts 221 = .ok (.invokevirtual 267, 3) := by decide +kernel
theorem dX11_puts_224 : decode cX11_puts 224 = .ok (.ireturn, 1) := by decide +kernel
set_option maxRecDepth 20000 in
theorem ggX11_does_X11_of : GoodIn wsX11_does wsX11_of := goodIn_r _ [5, 6, 7, 65, 66, 67, 68, 69, 70, 71, 72, 73, 74, 75, 76, 77, 78, 79, 80, 81, 82, 83, 84, 85, 86, 87, 88, 89, 90, 91, 92, 93, 94, 95, 96, 97, 98, 99, 100, 101, 102, 103, 104, 105, 106, 107, 108, 109, 110] (by decide +kernel) (by decide +kernel)
set_option maxRecDepth 20000 in
theorem gX11_does_X11_of : GoodIn wsX11_does (wsV RX11 234 RX11 yX11_of wsX11_of) := goodIn_app (goodIn_of _ (by decide +kernel)) ggX11_does_X11_of
set_option maxRecDepth 20000 in
theorem ggX11_does_X11_scans : GoodIn wsX11_does wsX11_scans := goodIn_r _ [11, 12, 13, 14, 15, 4, 16, 17, 18, 19, 20, 1, 2, 3, 5, 6, 7, 21, 22, 23, 24, 25, 26, 27, 28, 29, 30, 31, 65, 66, 67, 68, 69, 70, 71, 72, 73, 74, 75, 76, 77, 78, 79, 80, 81, 82, 83, 84, 85, 86, 87, 88, 89, 90, 91, 92, 93, 94, 95, 96, 97, 98, 99, 100, 101, 102, 103, 104, 105, 106, 107, 108, 109, 110] (by decide +kernel) (by decide +kernel)
set_option maxRecDepth 20000 in
theorem gX11_does_X11_scans : GoodIn wsX11_does (wsV RX11 296 RX11 yX11_scans wsX11_scans) := goodIn_app (goodIn_of _ (by decide +kernel)) ggX11_does_X11_scans
set_option maxRecDepth 20000 in
theorem ggX11_does_X11_puts : GoodIn wsX11_does wsX11_puts := goodIn_r _ [35, 36, 13, 14, 15, 4, 16, 17, 18, 19, 20, 1, 2, 3, 5, 6, 7, 37, 38, 39, 40, 41, 42, 43, 44, 45, 46, 47, 48, 21, 22, 23, 24, 25, 26, 27, 28, 29, 30, 31, 49, 50, 51, 52, 53, 54, 55, 56, 57, 58, 59, 60, 65, 66, 67, 68, 69, 70, 71, 72, 73, 74, 75, 76, 77, 78, 79, 80, 81, 82, 83, 84, 85, 86, 87, 88, 89, 90, 91, 92, 93, 94, 95, 96, 97, 98, 99, 100, 101, 102, 103, 104, 105, 106, 107, 108, 109, 110] (by decide +kernel) (by decide +kernel)
set_option maxRecDepth 20000 in
theorem gX11_does_X11_puts : GoodIn wsX11_does (wsV RX11 300 RX11 yX11_puts wsX11_puts) := goodIn_app (goodIn_of _ (by decide +kernel)) ggX11_does_X11_puts
set_option maxRecDepth 20000 in
theorem ggX11_does_X11_locks : GoodIn wsX11_does wsX11_locks := goodIn_r _ [64, 12, 13, 14, 15, 4, 16, 17, 18, 19, 20, 1, 2, 3, 5, 6, 7, 37, 38, 39, 40, 21, 22, 23, 24, 25, 26, 27, 28, 29, 30, 31, 41, 42, 43, 44, 45, 46, 47, 48, 65, 66, 67, 68, 69, 70, 71, 72, 73, 74, 75, 76, 77, 78, 79, 80, 81, 82, 83, 84, 85, 86, 87, 88, 89, 90, 91, 92, 93, 94, 95, 96, 97, 98, 99, 100, 101, 102, 103, 104, 105, 106, 107, 108, 109, 110] (by decide +kernel) (by decide +kernel)
set_option maxRecDepth 20000 in
theorem gX11_does_X11_locks : GoodIn wsX11_does (wsV RX11 303 RX11 yX11_locks wsX11_locks) := goodIn_app (goodIn_of _ (by decide +kernel)) ggX11_does_X11_locks
theorem dX11_does_0 : decode cX11_does 0 = .ok (.aload_n 0, 1) := by decide +kernel
theorem dX11_does_1 : decode cX11_does 1 = .ok (.sipush 190, 3) := by decide +kernel
theorem dX11_does_4 : decode cX11_does 4 = .ok (.iload_n 1, 1) := by decide +kernel
theorem dX11_does_5 : decode cX11_does 5 = .ok (.iadd, 1) := by decide +kernel
theorem dX11_does_6 : decode cX11_does 6 = .ok (.invokevirtual 234, 3) := by decide +kernel
theorem dX11_does_9 : decode cX11_does 9 = .ok (.istore_n 2, 1) := by decide +kernel
theorem dX11_does_10 : decode cX11_does 10 = .ok (.iload_n 2, 1) := by decide +kernel
theorem dX11_does_11 : decode cX11_does 11 = .ok (.iconst 3, 1) := by decide +kernel
theorem dX11_does_12 : decode cX11_does 12 = .ok (.if_icmp .ne 27, 3) := by decide +kernel
theorem dX11_does_15 : decode cX11_does 15 = .ok (.aload_n 0, 1) := by decide +kernel
theorem dX11_does_16 : decode cX11_does 16 = .ok (.iload_n 1, 1) := by decide +kernel
theorem dX11_does_17 : decode cX11_does 17 = .ok (.aload_n 0, 1) := by decide +kernel
theorem dX11_does_18 : decode cX11_does 18 = .ok (.sipush 195, 3) := by decide +kernel
theorem dX11_does_21 : decode cX11_does 21 = .ok (.iload_n 1, 1) := by decide +kernel
theorem dX11_does_22 : decode cX11_does 22 = .ok (.iadd, 1) := by decide +kernel
theorem dX11_does_23 : decode cX11_does 23 = .ok (.invokevirtual 234, 3) := by decide +kernel
theorem dX11_does_26 : decode cX11_does 26 = .ok (.aload_n 0, 1) := by decide +kernel
theorem dX11_does_27 : decode cX11_does 27 = .ok (.sipush 200, 3) := by decide +kernel
theorem dX11_does_30 : decode cX11_does 30 = .ok (.iload_n 1, 1) := by decide +kernel
theorem dX11_does_31 : decode cX11_does 31 = .ok (.iadd, 1) := by decide +kernel
theorem dX11_does_32 : decode cX11_does 32 = .ok (.invokevirtual 234, 3) := by decide +kernel
theorem dX11_does_35 : decode cX11_does 35 = .ok (.invokevirtual 296, 3) := by decide +kernel
theorem dX11_does_38 : decode cX11_does 38 = .ok (.ireturn, 1) := by decide +kernel
theorem dX11_does_39 : decode cX11_does 39 = .ok (.iload_n 2, 1) := by decide +kernel
theorem dX11_does_40 : decode cX11_does 40 = .ok (.bipush 7, 2) := by decide +kernel
theorem dX11_does_42 : decode cX11_does 42 = .ok (.if_icmp .ne 27, 3) := by decide +kernel
theorem dX11_does_45 : decode cX11_does 45 = .ok (.aload_n 0, 1) := by decide +kernel
theorem dX11_does_46 : decode cX11_does 46 = .ok (.iload_n 1, 1) := by decide +kernel
theorem dX11_does_47 : decode cX11_does 47 = .ok (.aload_n 0, 1) := by decide +kernel
theorem dX11_does_48 : decode cX11_does 48 = .ok (.sipush 195, 3) := by decide +kernel
theorem dX11_does_51 : decode cX11_does 51 = .ok (.iload_n 1, 1) := by decide +kernel
theorem dX11_does_52 : decode cX11_does 52 = .ok (.iadd, 1) := by decide +kernel
theorem dX11_does_53 : decode cX11_does 53 = .ok (.invokevirtual 234, 3) := by decide +kernel
theorem dX11_does_56 : decode cX11_does 56 = .ok (.aload_n 0, 1) := by decide +kernel
theorem dX11_does_57 : decode cX11_does 57 = .ok (.sipush 205, 3) := by decide +kernel
theorem dX11_does_60 : decode cX11_does 60 = .ok (.iload_n 1, 1) := by decide +kernel
theorem dX11_does_61 : decode cX11_does 61 = .ok (.iadd, 1) := by decide +kernel
theorem dX11_does_62 : decode cX11_does 62 = .ok (.invokevirtual 234, 3) := by decide +kernel
theorem dX11_does_65 : decode cX11_does 65 = .ok (.invokevirtual 300, 3) := by decide +kernel
theorem dX11_does_68 : decode cX11_does 68 = .ok (.ireturn, 1) := by decide +kernel
theorem dX11_does_69 : decode cX11_does 69 = .ok (.aload_n 0, 1) := by decide +kernel
theorem dX11_does_70 : decode cX11_does 70 = .ok (.iload_n 1, 1) := by decide +kernel
theorem dX11_does_71 : decode cX11_does 71 = .ok (.iload_n 2, 1) := by decide +kernel
theorem dX11_does_72 : decode cX11_does 72 = .ok (.aload_n 0, 1) := by decide +kernel
theorem dX11_does_73 : decode cX11_does 73 = .ok (.sipush 195, 3) := by decide +kernel
theorem dX11_does_76 : decode cX11_does 76 = .ok (.iload_n 1, 1) := by decide +kernel
theorem dX11_does_77 : decode cX11_does 77 = .ok (.iadd, 1) := by decide +kernel
theorem dX11_does_78 : decode cX11_does 78 = .ok (.invokevirtual 234, 3) := by decide +kernel
theorem dX11_does_81 : decode cX11_does 81 = .ok (.aload_n 0, 1) := by decide +kernel
theorem dX11_does_82 : decode cX11_does 82 = .ok (.sipush 205, 3) := by decide +kernel
theorem dX11_does_85 : decode cX11_does 85 = .ok (.iload_n 1, 1) := by decide +kernel
theorem dX11_does_86 : decode cX11_does 86 = .ok (.iadd, 1) := by decide +kernel
theorem dX11_does_87 : decode cX11_does 87 = .ok (.invokevirtual 234, 3) := by decide +kernel
theorem dX11_does_90 : decode cX11_does 90 = .ok (.invokevirtual 303, 3) := by decide +kernel
theorem dX11_does_93 : decode cX11_does 93 = .ok (.ireturn, 1) := by decide +kernel
set_option maxRecDepth 20000 in
theorem ggX11_stopsNow_X11_of : GoodIn wsX11_stopsNow wsX11_of := goodIn_r _ [5, 6, 7, 20, 21, 22, 23, 24, 25, 26, 27, 28, 29, 30, 31, 32, 33, 34, 35, 36, 37, 38, 39, 40, 41, 42, 43, 44, 45, 46, 47, 48, 49, 50, 51, 52, 53, 54, 55, 56, 57, 58, 59, 60, 61, 62, 63, 64, 65] (by decide +kernel) (by decide +kernel)
set_option maxRecDepth 20000 in
theorem gX11_stopsNow_X11_of : GoodIn wsX11_stopsNow (wsV RX11 234 RX11 yX11_of wsX11_of) := goodIn_app (goodIn_of _ (by decide +kernel)) ggX11_stopsNow_X11_of
set_option maxRecDepth 20000 in
theorem ggX11_stopsNow_X11_placeOf : GoodIn wsX11_stopsNow wsX11_placeOf := goodIn_r _ [11, 12, 13, 14, 4, 15, 1, 2, 3, 5, 6, 7, 20, 21, 22, 23, 24, 25, 26, 27, 28, 29, 30, 31, 32, 33, 34, 35, 36, 37, 38, 39, 40, 41, 42, 43, 44, 45, 46, 47, 48, 49, 50, 51, 52, 53, 54, 55, 56, 57, 58, 59, 60, 61, 62, 63, 64, 65] (by decide +kernel) (by decide +kernel)
set_option maxRecDepth 20000 in
theorem gX11_stopsNow_X11_placeOf : GoodIn wsX11_stopsNow (wsV RX11 254 RX11 yX11_placeOf wsX11_placeOf) := goodIn_app (goodIn_of _ (by decide +kernel)) ggX11_stopsNow_X11_placeOf
set_option maxRecDepth 20000 in
theorem ggX11_stopsNow_X11_isThere : GoodIn wsX11_stopsNow wsX11_isThere := goodIn_r _ [19, 12, 13, 14, 4, 15, 1, 2, 3, 5, 6, 7, 20, 21, 22, 23, 24, 25, 26, 27, 28, 29, 30, 31, 32, 33, 34, 35, 36, 37, 38, 39, 40, 41, 42, 43, 44, 45, 46, 47, 48, 49, 50, 51, 52, 53, 54, 55, 56, 57, 58, 59, 60, 61, 62, 63, 64, 65] (by decide +kernel) (by decide +kernel)
set_option maxRecDepth 20000 in
theorem gX11_stopsNow_X11_isThere : GoodIn wsX11_stopsNow (wsV RX11 287 RX11 yX11_isThere wsX11_isThere) := goodIn_app (goodIn_of _ (by decide +kernel)) ggX11_stopsNow_X11_isThere
theorem dX11_stopsNow_0 : decode cX11_stopsNow 0 = .ok (.aload_n 0, 1) := by decide +kernel
theorem dX11_stopsNow_1 : decode cX11_stopsNow 1 = .ok (.sipush 170, 3) := by decide +kernel
theorem dX11_stopsNow_4 : decode cX11_stopsNow 4 = .ok (.iload_n 1, 1) := by decide +kernel
theorem dX11_stopsNow_5 : decode cX11_stopsNow 5 = .ok (.iadd, 1) := by decide +kernel
theorem dX11_stopsNow_6 : decode cX11_stopsNow 6 = .ok (.invokevirtual 234, 3) := by decide +kernel
theorem dX11_stopsNow_9 : decode cX11_stopsNow 9 = .ok (.iconst 2, 1) := by decide +kernel
theorem dX11_stopsNow_10 : decode cX11_stopsNow 10 = .ok (.if_icmp .eq 5, 3) := by decide +kernel
theorem dX11_stopsNow_13 : decode cX11_stopsNow 13 = .ok (.iconst 0, 1) := by decide +kernel
theorem dX11_stopsNow_14 : decode cX11_stopsNow 14 = .ok (.ireturn, 1) := by decide +kernel
theorem dX11_stopsNow_15 : decode cX11_stopsNow 15 = .ok (.aload_n 0, 1) := by decide +kernel
theorem dX11_stopsNow_16 : decode cX11_stopsNow 16 = .ok (.sipush 215, 3) := by decide +kernel
theorem dX11_stopsNow_19 : decode cX11_stopsNow 19 = .ok (.iload_n 1, 1) := by decide +kernel
theorem dX11_stopsNow_20 : decode cX11_stopsNow 20 = .ok (.iadd, 1) := by decide +kernel
theorem dX11_stopsNow_21 : decode cX11_stopsNow 21 = .ok (.invokevirtual 234, 3) := by decide +kernel
theorem dX11_stopsNow_24 : decode cX11_stopsNow 24 = .ok (.istore_n 2, 1) := by decide +kernel
theorem dX11_stopsNow_25 : decode cX11_stopsNow 25 = .ok (.aload_n 0, 1) := by decide +kernel
theorem dX11_stopsNow_26 : decode cX11_stopsNow 26 = .ok (.iload_n 2, 1) := by decide +kernel
theorem dX11_stopsNow_27 : decode cX11_stopsNow 27 = .ok (.invokevirtual 254, 3) := by decide +kernel
theorem dX11_stopsNow_30 : decode cX11_stopsNow 30 = .ok (.istore_n 3, 1) := by decide +kernel
theorem dX11_stopsNow_31 : decode cX11_stopsNow 31 = .ok (.iconst 1, 1) := by decide +kernel
theorem dX11_stopsNow_32 : decode cX11_stopsNow 32 = .ok (.iload_n 1, 1) := by decide +kernel
theorem dX11_stopsNow_33 : decode cX11_stopsNow 33 = .ok (.ishl, 1) := by decide +kernel
theorem dX11_stopsNow_34 : decode cX11_stopsNow 34 = .ok (.iconst (-1), 1) := by decide +kernel
theorem dX11_stopsNow_35 : decode cX11_stopsNow 35 = .ok (.ixor, 1) := by decide +kernel
theorem dX11_stopsNow_36 : decode cX11_stopsNow 36 = .ok (.istore 4, 2) := by decide +kernel
theorem dX11_stopsNow_38 : decode cX11_stopsNow 38 = .ok (.aload_n 0, 1) := by decide +kernel
theorem dX11_stopsNow_39 : decode cX11_stopsNow 39 = .ok (.sipush 210, 3) := by decide +kernel
theorem dX11_stopsNow_42 : decode cX11_stopsNow 42 = .ok (.iload_n 1, 1) := by decide +kernel
theorem dX11_stopsNow_43 : decode cX11_stopsNow 43 = .ok (.iadd, 1) := by decide +kernel
theorem dX11_stopsNow_44 : decode cX11_stopsNow 44 = .ok (.invokevirtual 234, 3) := by decide +kernel
theorem dX11_stopsNow_47 : decode cX11_stopsNow 47 = .ok (.iconst 3, 1) := by decide +kernel
theorem dX11_stopsNow_48 : decode cX11_stopsNow 48 = .ok (.if_icmp .ne 15, 3) := by decide +kernel
theorem dX11_stopsNow_51 : decode cX11_stopsNow 51 = .ok (.aload_n 0, 1) := by decide +kernel
theorem dX11_stopsNow_52 : decode cX11_stopsNow 52 = .ok (.bipush 97, 2) := by decide +kernel
theorem dX11_stopsNow_54 : decode cX11_stopsNow 54 = .ok (.iload_n 3, 1) := by decide +kernel
theorem dX11_stopsNow_55 : decode cX11_stopsNow 55 = .ok (.iadd, 1) := by decide +kernel
theorem dX11_stopsNow_56 : decode cX11_stopsNow 56 = .ok (.invokevirtual 234, 3) := by decide +kernel
theorem dX11_stopsNow_59 : decode cX11_stopsNow 59 = .ok (.iload 4, 2) := by decide +kernel
theorem dX11_stopsNow_61 : decode cX11_stopsNow 61 = .ok (.iand, 1) := by decide +kernel
theorem dX11_stopsNow_62 : decode cX11_stopsNow 62 = .ok (.ireturn, 1) := by decide +kernel
theorem dX11_stopsNow_63 : decode cX11_stopsNow 63 = .ok (.aload_n 0, 1) := by decide +kernel
theorem dX11_stopsNow_64 : decode cX11_stopsNow 64 = .ok (.iload_n 3, 1) := by decide +kernel
theorem dX11_stopsNow_65 : decode cX11_stopsNow 65 = .ok (.iload_n 2, 1) := by decide +kernel
theorem dX11_stopsNow_66 : decode cX11_stopsNow 66 = .ok (.invokevirtual 287, 3) := by decide +kernel
theorem dX11_stopsNow_69 : decode cX11_stopsNow 69 = .ok (.ifCond .ne 5, 3) := by decide +kernel
theorem dX11_stopsNow_72 : decode cX11_stopsNow 72 = .ok (.iconst 0, 1) := by decide +kernel
theorem dX11_stopsNow_73 : decode cX11_stopsNow 73 = .ok (.ireturn, 1) := by decide +kernel
theorem dX11_stopsNow_74 : decode cX11_stopsNow 74 = .ok (.aload_n 0, 1) := by decide +kernel
theorem dX11_stopsNow_75 : decode cX11_stopsNow 75 = .ok (.sipush 210, 3) := by decide +kernel
theorem dX11_stopsNow_78 : decode cX11_stopsNow 78 = .ok (.iload_n 1, 1) := by decide +kernel
theorem dX11_stopsNow_79 : decode cX11_stopsNow 79 = .ok (.iadd, 1) := by decide +kernel
theorem dX11_stopsNow_80 : decode cX11_stopsNow 80 = .ok (.invokevirtual 234, 3) := by decide +kernel
theorem dX11_stopsNow_83 : decode cX11_stopsNow 83 = .ok (.iconst 1, 1) := by decide +kernel
theorem dX11_stopsNow_84 : decode cX11_stopsNow 84 = .ok (.if_icmp .ne 15, 3) := by decide +kernel
theorem dX11_stopsNow_87 : decode cX11_stopsNow 87 = .ok (.aload_n 0, 1) := by decide +kernel
theorem dX11_stopsNow_88 : decode cX11_stopsNow 88 = .ok (.sipush 146, 3) := by decide +kernel
theorem dX11_stopsNow_91 : decode cX11_stopsNow 91 = .ok (.iload_n 3, 1) := by decide +kernel
theorem dX11_stopsNow_92 : decode cX11_stopsNow 92 = .ok (.iadd, 1) := by decide +kernel
theorem dX11_stopsNow_93 : decode cX11_stopsNow 93 = .ok (.invokevirtual 234, 3) := by decide +kernel
theorem dX11_stopsNow_96 : decode cX11_stopsNow 96 = .ok (.goto 21, 3) := by decide +kernel
theorem dX11_stopsNow_99 : decode cX11_stopsNow 99 = .ok (.aload_n 0, 1) := by decide +kernel
theorem dX11_stopsNow_100 : decode cX11_stopsNow 100 = .ok (.bipush 122, 2) := by decide +kernel
theorem dX11_stopsNow_102 : decode cX11_stopsNow 102 = .ok (.iload_n 3, 1) := by decide +kernel
theorem dX11_stopsNow_103 : decode cX11_stopsNow 103 = .ok (.iadd, 1) := by decide +kernel
theorem dX11_stopsNow_104 : decode cX11_stopsNow 104 = .ok (.invokevirtual 234, 3) := by decide +kernel
theorem dX11_stopsNow_107 : decode cX11_stopsNow 107 = .ok (.aload_n 0, 1) := by decide +kernel
theorem dX11_stopsNow_108 : decode cX11_stopsNow 108 = .ok (.sipush 146, 3) := by decide +kernel
theorem dX11_stopsNow_111 : decode cX11_stopsNow 111 = .ok (.iload_n 3, 1) := by decide +kernel
theorem dX11_stopsNow_112 : decode cX11_stopsNow 112 = .ok (.iadd, 1) := by decide +kernel
theorem dX11_stopsNow_113 : decode cX11_stopsNow 113 = .ok (.invokevirtual 234, 3) := by decide +kernel
theorem dX11_stopsNow_116 : decode cX11_stopsNow 116 = .ok (.ior, 1) := by decide +kernel
theorem dX11_stopsNow_117 : decode cX11_stopsNow 117 = .ok (.iload 4, 2) := by decide +kernel
theorem dX11_stopsNow_119 : decode cX11_stopsNow 119 = .ok (.iand, 1) := by decide +kernel
theorem dX11_stopsNow_120 : decode cX11_stopsNow 120 = .ok (.ireturn, 1) := by decide +kernel
set_option maxRecDepth 20000 in
theorem ggX11_isRing_X11_isOf : GoodIn wsX11_isRing wsX11_isOf := goodIn_r _ [5] (by decide +kernel) (by decide +kernel)
set_option maxRecDepth 20000 in
theorem gX11_isRing_X11_isOf : GoodIn wsX11_isRing (va_wsS RX11 307 yX11_isOf wsX11_isOf) := goodIn_app (goodIn_of _ (by decide +kernel)) ggX11_isRing_X11_isOf
set_option maxRecDepth 20000 in
theorem ggX11_isRing_X11_stopsNow : GoodIn wsX11_isRing wsX11_stopsNow := goodIn_r _ [9, 10, 11, 12, 4, 13, 14, 15, 16, 17, 18, 19, 20, 21, 22, 23, 24, 25, 26, 27, 28, 29, 30, 31, 32, 33, 34, 35, 36, 37, 38, 39, 40, 41, 42, 43, 44, 45, 46, 47, 48, 49, 50, 51, 52, 53, 54, 55, 56, 57, 58, 59, 60, 61, 62, 63, 64, 65, 66, 67, 68, 69, 70, 71, 72, 73] (by decide +kernel) (by decide +kernel)
set_option maxRecDepth 20000 in
theorem gX11_isRing_X11_stopsNow : GoodIn wsX11_isRing (wsV RX11 310 RX11 yX11_stopsNow wsX11_stopsNow) := goodIn_app (goodIn_of _ (by decide +kernel)) ggX11_isRing_X11_stopsNow
theorem dX11_isRing_0 : decode cX11_isRing 0 = .ok (.iload_n 1, 1) := by decide +kernel
theorem dX11_isRing_1 : decode cX11_isRing 1 = .ok (.istore_n 3, 1) := by decide +kernel
theorem dX11_isRing_2 : decode cX11_isRing 2 = .ok (.iconst 0, 1) := by decide +kernel
theorem dX11_isRing_3 : decode cX11_isRing 3 = .ok (.istore 4, 2) := by decide +kernel
theorem dX11_isRing_5 : decode cX11_isRing 5 = .ok (.iload 4, 2) := by decide +kernel
theorem dX11_isRing_7 : decode cX11_isRing 7 = .ok (.bipush 6, 2) := by decide +kernel
theorem dX11_isRing_9 : decode cX11_isRing 9 = .ok (.if_icmp .ge 49, 3) := by decide +kernel
theorem dX11_isRing_12 : decode cX11_isRing 12 = .ok (.iconst 0, 1) := by decide +kernel
theorem dX11_isRing_13 : decode cX11_isRing 13 = .ok (.istore 5, 2) := by decide +kernel
theorem dX11_isRing_15 : decode cX11_isRing 15 = .ok (.iload 5, 2) := by decide +kernel
theorem dX11_isRing_17 : decode cX11_isRing 17 = .ok (.aload_n 0, 1) := by decide +kernel
theorem dX11_isRing_18 : decode cX11_isRing 18 = .ok (.getfield 189, 3) := by decide +kernel
theorem dX11_isRing_21 : decode cX11_isRing 21 = .ok (.if_icmp .ge 31, 3) := by decide +kernel
theorem dX11_isRing_24 : decode cX11_isRing 24 = .ok (.iload_n 3, 1) := by decide +kernel
theorem dX11_isRing_25 : decode cX11_isRing 25 = .ok (.iload_n 3, 1) := by decide +kernel
theorem dX11_isRing_26 : decode cX11_isRing 26 = .ok (.iload 5, 2) := by decide +kernel
theorem dX11_isRing_28 : decode cX11_isRing 28 = .ok (.invokestatic 307, 3) := by decide +kernel
theorem dX11_isRing_31 : decode cX11_isRing 31 = .ok (.ifCond .eq 12, 3) := by decide +kernel
theorem dX11_isRing_34 : decode cX11_isRing 34 = .ok (.aload_n 0, 1) := by decide +kernel
theorem dX11_isRing_35 : decode cX11_isRing 35 = .ok (.iload 5, 2) := by decide +kernel
theorem dX11_isRing_37 : decode cX11_isRing 37 = .ok (.invokevirtual 310, 3) := by decide +kernel
theorem dX11_isRing_40 : decode cX11_isRing 40 = .ok (.goto 4, 3) := by decide +kernel
theorem dX11_isRing_43 : decode cX11_isRing 43 = .ok (.iconst 0, 1) := by decide +kernel
theorem dX11_isRing_44 : decode cX11_isRing 44 = .ok (.ior, 1) := by decide +kernel
theorem dX11_isRing_45 : decode cX11_isRing 45 = .ok (.istore_n 3, 1) := by decide +kernel
theorem dX11_isRing_46 : decode cX11_isRing 46 = .ok (.iinc 5 1, 3) := by decide +kernel
theorem dX11_isRing_49 : decode cX11_isRing 49 = .ok (.goto (-34), 3) := by decide +kernel
theorem dX11_isRing_52 : decode cX11_isRing 52 = .ok (.iinc 4 1, 3) := by decide +kernel
theorem dX11_isRing_55 : decode cX11_isRing 55 = .ok (.goto (-50), 3) := by decide +kernel
theorem dX11_isRing_58 : decode cX11_isRing 58 = .ok (.iload_n 3, 1) := by decide +kernel
theorem dX11_isRing_59 : decode cX11_isRing 59 = .ok (.iload_n 2, 1) := by decide +kernel
theorem dX11_isRing_60 : decode cX11_isRing 60 = .ok (.invokestatic 307, 3) := by decide +kernel
theorem dX11_isRing_63 : decode cX11_isRing 63 = .ok (.ireturn, 1) := by decide +kernel
set_option maxRecDepth 20000 in
theorem ggX11_releases_X11_many : GoodIn wsX11_releases wsX11_many := goodIn_r _ [5, 6, 7, 8, 4, 9, 10, 11, 16, 17, 18, 19, 20, 21, 22, 23, 24, 25, 26, 27, 28, 29, 30, 31, 32, 33, 34, 35, 36, 37, 38, 39, 40, 41, 42, 43, 44, 45, 46, 47, 48, 49, 50, 51, 52, 53, 54, 55, 56, 57, 58, 59, 60, 61] (by decide +kernel) (by decide +kernel)
set_option maxRecDepth 20000 in
theorem gX11_releases_X11_many : GoodIn wsX11_releases (wsV RX11 267 RX11 yX11_many wsX11_many) := goodIn_app (goodIn_of _ (by decide +kernel)) ggX11_releases_X11_many
set_option maxRecDepth 20000 in
theorem ggX11_releases_X11_of : GoodIn wsX11_releases wsX11_of := goodIn_r _ [9, 10, 11, 16, 17, 18, 19, 20, 21, 22, 23, 24, 25, 26, 27, 28, 29, 30, 31, 32, 33, 34, 35, 36, 37, 38, 39, 40, 41, 42, 43, 44, 45, 46, 47, 48, 49, 50, 51, 52, 53, 54, 55, 56, 57, 58, 59, 60, 61] (by decide +kernel) (by decide +kernel)
set_option maxRecDepth 20000 in
theorem gX11_releases_X11_of : GoodIn wsX11_releases (wsV RX11 234 RX11 yX11_of wsX11_of) := goodIn_app (goodIn_of _ (by decide +kernel)) ggX11_releases_X11_of
set_option maxRecDepth 20000 in
theorem ggX11_releases_X11_lay : GoodIn wsX11_releases wsX11_lay := goodIn_r _ [15, 10, 11, 16, 17, 18, 19, 20, 21, 22, 23, 24, 25, 26, 27, 28, 29, 30, 31, 32, 33, 34, 35, 36, 37, 38, 39, 40, 41, 42, 43, 44, 45, 46, 47, 48, 49, 50, 51, 52, 53, 54, 55, 56, 57, 58, 59, 60, 61] (by decide +kernel) (by decide +kernel)
set_option maxRecDepth 20000 in
theorem gX11_releases_X11_lay : GoodIn wsX11_releases (wsV RX11 250 RX11 yX11_lay wsX11_lay) := goodIn_app (goodIn_of _ (by decide +kernel)) ggX11_releases_X11_lay
theorem dX11_releases_0 : decode cX11_releases 0 = .ok (.iconst 0, 1) := by decide +kernel
theorem dX11_releases_1 : decode cX11_releases 1 = .ok (.istore_n 2, 1) := by decide +kernel
theorem dX11_releases_2 : decode cX11_releases 2 = .ok (.iload_n 2, 1) := by decide +kernel
theorem dX11_releases_3 : decode cX11_releases 3 = .ok (.aload_n 0, 1) := by decide +kernel
theorem dX11_releases_4 : decode cX11_releases 4 = .ok (.invokevirtual 267, 3) := by decide +kernel
theorem dX11_releases_7 : decode cX11_releases 7 = .ok (.if_icmp .gt 109, 3) := by decide +kernel
theorem dX11_releases_10 : decode cX11_releases 10 = .ok (.aload_n 0, 1) := by decide +kernel
theorem dX11_releases_11 : decode cX11_releases 11 = .ok (.bipush 97, 2) := by decide +kernel
theorem dX11_releases_13 : decode cX11_releases 13 = .ok (.iload_n 2, 1) := by decide +kernel
theorem dX11_releases_14 : decode cX11_releases 14 = .ok (.iadd, 1) := by decide +kernel
theorem dX11_releases_15 : decode cX11_releases 15 = .ok (.aload_n 0, 1) := by decide +kernel
theorem dX11_releases_16 : decode cX11_releases 16 = .ok (.bipush 97, 2) := by decide +kernel
theorem dX11_releases_18 : decode cX11_releases 18 = .ok (.iload_n 2, 1) := by decide +kernel
theorem dX11_releases_19 : decode cX11_releases 19 = .ok (.iadd, 1) := by decide +kernel
theorem dX11_releases_20 : decode cX11_releases 20 = .ok (.invokevirtual 234, 3) := by decide +kernel
theorem dX11_releases_23 : decode cX11_releases 23 = .ok (.iconst 1, 1) := by decide +kernel
theorem dX11_releases_24 : decode cX11_releases 24 = .ok (.iload_n 1, 1) := by decide +kernel
theorem dX11_releases_25 : decode cX11_releases 25 = .ok (.ishl, 1) := by decide +kernel
theorem dX11_releases_26 : decode cX11_releases 26 = .ok (.iconst (-1), 1) := by decide +kernel
theorem dX11_releases_27 : decode cX11_releases 27 = .ok (.ixor, 1) := by decide +kernel
theorem dX11_releases_28 : decode cX11_releases 28 = .ok (.iand, 1) := by decide +kernel
theorem dX11_releases_29 : decode cX11_releases 29 = .ok (.invokevirtual 250, 3) := by decide +kernel
theorem dX11_releases_32 : decode cX11_releases 32 = .ok (.iload_n 2, 1) := by decide +kernel
theorem dX11_releases_33 : decode cX11_releases 33 = .ok (.aload_n 0, 1) := by decide +kernel
theorem dX11_releases_34 : decode cX11_releases 34 = .ok (.invokevirtual 267, 3) := by decide +kernel
theorem dX11_releases_37 : decode cX11_releases 37 = .ok (.if_icmp .ne 6, 3) := by decide +kernel
theorem dX11_releases_40 : decode cX11_releases 40 = .ok (.goto 70, 3) := by decide +kernel
theorem dX11_releases_43 : decode cX11_releases 43 = .ok (.aload_n 0, 1) := by decide +kernel
theorem dX11_releases_44 : decode cX11_releases 44 = .ok (.bipush 122, 2) := by decide +kernel
theorem dX11_releases_46 : decode cX11_releases 46 = .ok (.iload_n 2, 1) := by decide +kernel
theorem dX11_releases_47 : decode cX11_releases 47 = .ok (.iadd, 1) := by decide +kernel
theorem dX11_releases_48 : decode cX11_releases 48 = .ok (.aload_n 0, 1) := by decide +kernel
theorem dX11_releases_49 : decode cX11_releases 49 = .ok (.bipush 122, 2) := by decide +kernel
theorem dX11_releases_51 : decode cX11_releases 51 = .ok (.iload_n 2, 1) := by decide +kernel
theorem dX11_releases_52 : decode cX11_releases 52 = .ok (.iadd, 1) := by decide +kernel
theorem dX11_releases_53 : decode cX11_releases 53 = .ok (.invokevirtual 234, 3) := by decide +kernel
theorem dX11_releases_56 : decode cX11_releases 56 = .ok (.iconst 1, 1) := by decide +kernel
theorem dX11_releases_57 : decode cX11_releases 57 = .ok (.iload_n 1, 1) := by decide +kernel
theorem dX11_releases_58 : decode cX11_releases 58 = .ok (.ishl, 1) := by decide +kernel
theorem dX11_releases_59 : decode cX11_releases 59 = .ok (.iconst (-1), 1) := by decide +kernel
theorem dX11_releases_60 : decode cX11_releases 60 = .ok (.ixor, 1) := by decide +kernel
theorem dX11_releases_61 : decode cX11_releases 61 = .ok (.iand, 1) := by decide +kernel
theorem dX11_releases_62 : decode cX11_releases 62 = .ok (.invokevirtual 250, 3) := by decide +kernel
theorem dX11_releases_65 : decode cX11_releases 65 = .ok (.aload_n 0, 1) := by decide +kernel
theorem dX11_releases_66 : decode cX11_releases 66 = .ok (.sipush 146, 3) := by decide +kernel
theorem dX11_releases_69 : decode cX11_releases 69 = .ok (.iload_n 2, 1) := by decide +kernel
theorem dX11_releases_70 : decode cX11_releases 70 = .ok (.iadd, 1) := by decide +kernel
theorem dX11_releases_71 : decode cX11_releases 71 = .ok (.aload_n 0, 1) := by decide +kernel
theorem dX11_releases_72 : decode cX11_releases 72 = .ok (.sipush 146, 3) := by decide +kernel
theorem dX11_releases_75 : decode cX11_releases 75 = .ok (.iload_n 2, 1) := by decide +kernel
theorem dX11_releases_76 : decode cX11_releases 76 = .ok (.iadd, 1) := by decide +kernel
theorem dX11_releases_77 : decode cX11_releases 77 = .ok (.invokevirtual 234, 3) := by decide +kernel
theorem dX11_releases_80 : decode cX11_releases 80 = .ok (.iconst 1, 1) := by decide +kernel
theorem dX11_releases_81 : decode cX11_releases 81 = .ok (.iload_n 1, 1) := by decide +kernel
theorem dX11_releases_82 : decode cX11_releases 82 = .ok (.ishl, 1) := by decide +kernel
theorem dX11_releases_83 : decode cX11_releases 83 = .ok (.iconst (-1), 1) := by decide +kernel
theorem dX11_releases_84 : decode cX11_releases 84 = .ok (.ixor, 1) := by decide +kernel
theorem dX11_releases_85 : decode cX11_releases 85 = .ok (.iand, 1) := by decide +kernel
theorem dX11_releases_86 : decode cX11_releases 86 = .ok (.invokevirtual 250, 3) := by decide +kernel
theorem dX11_releases_89 : decode cX11_releases 89 = .ok (.aload_n 0, 1) := by decide +kernel
theorem dX11_releases_90 : decode cX11_releases 90 = .ok (.bipush 73, 2) := by decide +kernel
theorem dX11_releases_92 : decode cX11_releases 92 = .ok (.iload_n 2, 1) := by decide +kernel
theorem dX11_releases_93 : decode cX11_releases 93 = .ok (.iadd, 1) := by decide +kernel
theorem dX11_releases_94 : decode cX11_releases 94 = .ok (.invokevirtual 234, 3) := by decide +kernel
theorem dX11_releases_97 : decode cX11_releases 97 = .ok (.iload_n 1, 1) := by decide +kernel
theorem dX11_releases_98 : decode cX11_releases 98 = .ok (.if_icmp .ne 12, 3) := by decide +kernel
theorem dX11_releases_101 : decode cX11_releases 101 = .ok (.aload_n 0, 1) := by decide +kernel
theorem dX11_releases_102 : decode cX11_releases 102 = .ok (.bipush 73, 2) := by decide +kernel
theorem dX11_releases_104 : decode cX11_releases 104 = .ok (.iload_n 2, 1) := by decide +kernel
theorem dX11_releases_105 : decode cX11_releases 105 = .ok (.iadd, 1) := by decide +kernel
theorem dX11_releases_106 : decode cX11_releases 106 = .ok (.iconst (-1), 1) := by decide +kernel
theorem dX11_releases_107 : decode cX11_releases 107 = .ok (.invokevirtual 250, 3) := by decide +kernel
theorem dX11_releases_110 : decode cX11_releases 110 = .ok (.iinc 2 1, 3) := by decide +kernel
theorem dX11_releases_113 : decode cX11_releases 113 = .ok (.goto (-111), 3) := by decide +kernel
theorem dX11_releases_116 : decode cX11_releases 116 = .ok (.aload_n 0, 1) := by decide +kernel
theorem dX11_releases_117 : decode cX11_releases 117 = .ok (.sipush 170, 3) := by decide +kernel
theorem dX11_releases_120 : decode cX11_releases 120 = .ok (.iload_n 1, 1) := by decide +kernel
theorem dX11_releases_121 : decode cX11_releases 121 = .ok (.iadd, 1) := by decide +kernel
theorem dX11_releases_122 : decode cX11_releases 122 = .ok (.iconst 0, 1) := by decide +kernel
theorem dX11_releases_123 : decode cX11_releases 123 = .ok (.invokevirtual 250, 3) := by decide +kernel
theorem dX11_releases_126 : decode cX11_releases 126 = .ok (.aload_n 0, 1) := by decide +kernel
theorem dX11_releases_127 : decode cX11_releases 127 = .ok (.sipush 210, 3) := by decide +kernel
theorem dX11_releases_130 : decode cX11_releases 130 = .ok (.iload_n 1, 1) := by decide +kernel
theorem dX11_releases_131 : decode cX11_releases 131 = .ok (.iadd, 1) := by decide +kernel
theorem dX11_releases_132 : decode cX11_releases 132 = .ok (.iconst 0, 1) := by decide +kernel
theorem dX11_releases_133 : decode cX11_releases 133 = .ok (.invokevirtual 250, 3) := by decide +kernel
theorem dX11_releases_136 : decode cX11_releases 136 = .ok (.return_, 1) := by decide +kernel
set_option maxRecDepth 20000 in
theorem ggX11_undoes_X11_of : GoodIn wsX11_undoes wsX11_of := goodIn_r _ [10, 11, 1, 40, 41, 42, 43, 44, 45, 46, 47, 48, 49, 50, 51, 52, 53, 54, 55, 56, 57, 58, 59, 60, 61, 62, 63, 64, 65, 66, 67, 68, 69, 70, 71, 72, 73, 74, 75, 76, 77, 78, 79, 80, 81, 82, 83, 84, 85] (by decide +kernel) (by decide +kernel)
set_option maxRecDepth 20000 in
theorem gX11_undoes_X11_of : GoodIn wsX11_undoes (wsV RX11 234 RX11 yX11_of wsX11_of) := goodIn_app (goodIn_of _ (by decide +kernel)) ggX11_undoes_X11_of
set_option maxRecDepth 20000 in
theorem ggX11_undoes_X11_placeOf : GoodIn wsX11_undoes wsX11_placeOf := goodIn_r _ [15, 16, 17, 18, 9, 19, 6, 7, 8, 10, 11, 1, 40, 41, 42, 43, 44, 45, 46, 47, 48, 49, 50, 51, 52, 53, 54, 55, 56, 57, 58, 59, 60, 61, 62, 63, 64, 65, 66, 67, 68, 69, 70, 71, 72, 73, 74, 75, 76, 77, 78, 79, 80, 81, 82, 83, 84, 85] (by decide +kernel) (by decide +kernel)
set_option maxRecDepth 20000 in
theorem gX11_undoes_X11_placeOf : GoodIn wsX11_undoes (wsV RX11 254 RX11 yX11_placeOf wsX11_placeOf) := goodIn_app (goodIn_of _ (by decide +kernel)) ggX11_undoes_X11_placeOf
set_option maxRecDepth 20000 in
theorem ggX11_undoes_X11_lay : GoodIn wsX11_undoes wsX11_lay := goodIn_r _ [23, 11, 1, 40, 41, 42, 43, 44, 45, 46, 47, 48, 49, 50, 51, 52, 53, 54, 55, 56, 57, 58, 59, 60, 61, 62, 63, 64, 65, 66, 67, 68, 69, 70, 71, 72, 73, 74, 75, 76, 77, 78, 79, 80, 81, 82, 83, 84, 85] (by decide +kernel) (by decide +kernel)
set_option maxRecDepth 20000 in
theorem gX11_undoes_X11_lay : GoodIn wsX11_undoes (wsV RX11 250 RX11 yX11_lay wsX11_lay) := goodIn_app (goodIn_of _ (by decide +kernel)) ggX11_undoes_X11_lay
set_option maxRecDepth 20000 in
theorem ggX11_undoes_X11_vanishes : GoodIn wsX11_undoes wsX11_vanishes := goodIn_r _ [27, 6, 7, 8, 9, 10, 11, 1, 20, 21, 22, 23, 28, 29, 30, 31, 16, 17, 18, 19, 32, 33, 34, 35, 40, 41, 42, 43, 44, 45, 46, 47, 48, 49, 50, 51, 52, 53, 54, 55, 56, 57, 58, 59, 60, 61, 62, 63, 64, 65, 66, 67, 68, 69, 70, 71, 72, 73, 74, 75, 76, 77, 78, 79, 80, 81, 82, 83, 84, 85] (by decide +kernel) (by decide +kernel)
set_option maxRecDepth 20000 in
theorem gX11_undoes_X11_vanishes : GoodIn wsX11_undoes (wsV RX11 313 RX11 yX11_vanishes wsX11_vanishes) := goodIn_app (goodIn_of _ (by decide +kernel)) ggX11_undoes_X11_vanishes
set_option maxRecDepth 20000 in
theorem ggX11_undoes_X11_releases : GoodIn wsX11_undoes wsX11_releases := goodIn_r _ [39, 16, 17, 18, 9, 19, 6, 7, 8, 10, 11, 1, 20, 21, 22, 23, 40, 41, 42, 43, 44, 45, 46, 47, 48, 49, 50, 51, 52, 53, 54, 55, 56, 57, 58, 59, 60, 61, 62, 63, 64, 65, 66, 67, 68, 69, 70, 71, 72, 73, 74, 75, 76, 77, 78, 79, 80, 81, 82, 83, 84, 85] (by decide +kernel) (by decide +kernel)
set_option maxRecDepth 20000 in
theorem gX11_undoes_X11_releases : GoodIn wsX11_undoes (wsV RX11 316 RX11 yX11_releases wsX11_releases) := goodIn_app (goodIn_of _ (by decide +kernel)) ggX11_undoes_X11_releases
theorem dX11_undoes_0 : decode cX11_undoes 0 = .ok (.aload_n 0, 1) := by decide +kernel
theorem dX11_undoes_1 : decode cX11_undoes 1 = .ok (.sipush 227, 3) := by decide +kernel
theorem dX11_undoes_4 : decode cX11_undoes 4 = .ok (.invokevirtual 234, 3) := by decide +kernel
theorem dX11_undoes_7 : decode cX11_undoes 7 = .ok (.iconst 1, 1) := by decide +kernel
theorem dX11_undoes_8 : decode cX11_undoes 8 = .ok (.isub, 1) := by decide +kernel
theorem dX11_undoes_9 : decode cX11_undoes 9 = .ok (.istore_n 2, 1) := by decide +kernel
theorem dX11_undoes_10 : decode cX11_undoes 10 = .ok (.iload_n 2, 1) := by decide +kernel
theorem dX11_undoes_11 : decode cX11_undoes 11 = .ok (.aload_n 0, 1) := by decide +kernel
theorem dX11_undoes_12 : decode cX11_undoes 12 = .ok (.sipush 180, 3) := by decide +kernel
theorem dX11_undoes_15 : decode cX11_undoes 15 = .ok (.iload_n 1, 1) := by decide +kernel
theorem dX11_undoes_16 : decode cX11_undoes 16 = .ok (.iadd, 1) := by decide +kernel
theorem dX11_undoes_17 : decode cX11_undoes 17 = .ok (.invokevirtual 234, 3) := by decide +kernel
theorem dX11_undoes_20 : decode cX11_undoes 20 = .ok (.if_icmp .lt 144, 3) := by decide +kernel
theorem dX11_undoes_23 : decode cX11_undoes 23 = .ok (.sipush 600, 3) := by decide +kernel
theorem dX11_undoes_26 : decode cX11_undoes 26 = .ok (.aload_n 0, 1) := by decide +kernel
theorem dX11_undoes_27 : decode cX11_undoes 27 = .ok (.getfield 202, 3) := by decide +kernel
theorem dX11_undoes_30 : decode cX11_undoes 30 = .ok (.imul, 1) := by decide +kernel
theorem dX11_undoes_31 : decode cX11_undoes 31 = .ok (.iload_n 2, 1) := by decide +kernel
theorem dX11_undoes_32 : decode cX11_undoes 32 = .ok (.iadd, 1) := by decide +kernel
theorem dX11_undoes_33 : decode cX11_undoes 33 = .ok (.istore_n 3, 1) := by decide +kernel
theorem dX11_undoes_34 : decode cX11_undoes 34 = .ok (.aload_n 0, 1) := by decide +kernel
theorem dX11_undoes_35 : decode cX11_undoes 35 = .ok (.getfield 47, 3) := by decide +kernel
theorem dX11_undoes_38 : decode cX11_undoes 38 = .ok (.iload_n 3, 1) := by decide +kernel
theorem dX11_undoes_39 : decode cX11_undoes 39 = .ok (.iaload, 1) := by decide +kernel
theorem dX11_undoes_40 : decode cX11_undoes 40 = .ok (.iload_n 1, 1) := by decide +kernel
theorem dX11_undoes_41 : decode cX11_undoes 41 = .ok (.if_icmp .eq 6, 3) := by decide +kernel
theorem dX11_undoes_44 : decode cX11_undoes 44 = .ok (.goto 114, 3) := by decide +kernel
theorem dX11_undoes_47 : decode cX11_undoes 47 = .ok (.aload_n 0, 1) := by decide +kernel
theorem dX11_undoes_48 : decode cX11_undoes 48 = .ok (.aload_n 0, 1) := by decide +kernel
theorem dX11_undoes_49 : decode cX11_undoes 49 = .ok (.getfield 53, 3) := by decide +kernel
theorem dX11_undoes_52 : decode cX11_undoes 52 = .ok (.iload_n 3, 1) := by decide +kernel
theorem dX11_undoes_53 : decode cX11_undoes 53 = .ok (.iaload, 1) := by decide +kernel
theorem dX11_undoes_54 : decode cX11_undoes 54 = .ok (.invokevirtual 254, 3) := by decide +kernel
theorem dX11_undoes_57 : decode cX11_undoes 57 = .ok (.istore 4, 2) := by decide +kernel
theorem dX11_undoes_59 : decode cX11_undoes 59 = .ok (.aload_n 0, 1) := by decide +kernel
theorem dX11_undoes_60 : decode cX11_undoes 60 = .ok (.getfield 50, 3) := by decide +kernel
theorem dX11_undoes_63 : decode cX11_undoes 63 = .ok (.iload_n 3, 1) := by decide +kernel
theorem dX11_undoes_64 : decode cX11_undoes 64 = .ok (.iaload, 1) := by decide +kernel
theorem dX11_undoes_65 : decode cX11_undoes 65 = .ok (.tableswitch 68 6 8 #[27, 58, 45], 27) := by decide +kernel
theorem dX11_undoes_92 : decode cX11_undoes 92 = .ok (.aload_n 0, 1) := by decide +kernel
theorem dX11_undoes_93 : decode cX11_undoes 93 = .ok (.bipush 25, 2) := by decide +kernel
theorem dX11_undoes_95 : decode cX11_undoes 95 = .ok (.iload 4, 2) := by decide +kernel
theorem dX11_undoes_97 : decode cX11_undoes 97 = .ok (.iadd, 1) := by decide +kernel
theorem dX11_undoes_98 : decode cX11_undoes 98 = .ok (.aload_n 0, 1) := by decide +kernel
theorem dX11_undoes_99 : decode cX11_undoes 99 = .ok (.getfield 56, 3) := by decide +kernel
theorem dX11_undoes_102 : decode cX11_undoes 102 = .ok (.iload_n 3, 1) := by decide +kernel
theorem dX11_undoes_103 : decode cX11_undoes 103 = .ok (.iaload, 1) := by decide +kernel
theorem dX11_undoes_104 : decode cX11_undoes 104 = .ok (.invokevirtual 250, 3) := by decide +kernel
theorem dX11_undoes_107 : decode cX11_undoes 107 = .ok (.goto 51, 3) := by decide +kernel
theorem dX11_undoes_110 : decode cX11_undoes 110 = .ok (.aload_n 0, 1) := by decide +kernel
theorem dX11_undoes_111 : decode cX11_undoes 111 = .ok (.bipush 49, 2) := by decide +kernel
theorem dX11_undoes_113 : decode cX11_undoes 113 = .ok (.iload 4, 2) := by decide +kernel
theorem dX11_undoes_115 : decode cX11_undoes 115 = .ok (.iadd, 1) := by decide +kernel
theorem dX11_undoes_116 : decode cX11_undoes 116 = .ok (.iconst (-1), 1) := by decide +kernel
theorem dX11_undoes_117 : decode cX11_undoes 117 = .ok (.invokevirtual 250, 3) := by decide +kernel
theorem dX11_undoes_120 : decode cX11_undoes 120 = .ok (.goto 38, 3) := by decide +kernel
theorem dX11_undoes_123 : decode cX11_undoes 123 = .ok (.aload_n 0, 1) := by decide +kernel
theorem dX11_undoes_124 : decode cX11_undoes 124 = .ok (.iload 4, 2) := by decide +kernel
theorem dX11_undoes_126 : decode cX11_undoes 126 = .ok (.iload_n 1, 1) := by decide +kernel
theorem dX11_undoes_127 : decode cX11_undoes 127 = .ok (.invokevirtual 313, 3) := by decide +kernel
theorem dX11_undoes_130 : decode cX11_undoes 130 = .ok (.goto 28, 3) := by decide +kernel
theorem dX11_undoes_133 : decode cX11_undoes 133 = .ok (.aload_n 0, 1) := by decide +kernel
theorem dX11_undoes_134 : decode cX11_undoes 134 = .ok (.bipush 49, 2) := by decide +kernel
theorem dX11_undoes_136 : decode cX11_undoes 136 = .ok (.iload 4, 2) := by decide +kernel
theorem dX11_undoes_138 : decode cX11_undoes 138 = .ok (.iadd, 1) := by decide +kernel
theorem dX11_undoes_139 : decode cX11_undoes 139 = .ok (.iload_n 1, 1) := by decide +kernel
theorem dX11_undoes_140 : decode cX11_undoes 140 = .ok (.invokevirtual 250, 3) := by decide +kernel
theorem dX11_undoes_143 : decode cX11_undoes 143 = .ok (.aload_n 0, 1) := by decide +kernel
theorem dX11_undoes_144 : decode cX11_undoes 144 = .ok (.bipush 25, 2) := by decide +kernel
theorem dX11_undoes_146 : decode cX11_undoes 146 = .ok (.iload 4, 2) := by decide +kernel
theorem dX11_undoes_148 : decode cX11_undoes 148 = .ok (.iadd, 1) := by decide +kernel
theorem dX11_undoes_149 : decode cX11_undoes 149 = .ok (.aload_n 0, 1) := by decide +kernel
theorem dX11_undoes_150 : decode cX11_undoes 150 = .ok (.getfield 56, 3) := by decide +kernel
theorem dX11_undoes_153 : decode cX11_undoes 153 = .ok (.iload_n 3, 1) := by decide +kernel
theorem dX11_undoes_154 : decode cX11_undoes 154 = .ok (.iaload, 1) := by decide +kernel
theorem dX11_undoes_155 : decode cX11_undoes 155 = .ok (.invokevirtual 250, 3) := by decide +kernel
theorem dX11_undoes_158 : decode cX11_undoes 158 = .ok (.iinc 2 (-1), 3) := by decide +kernel
theorem dX11_undoes_161 : decode cX11_undoes 161 = .ok (.goto (-151), 3) := by decide +kernel
theorem dX11_undoes_164 : decode cX11_undoes 164 = .ok (.aload_n 0, 1) := by decide +kernel
theorem dX11_undoes_165 : decode cX11_undoes 165 = .ok (.iload_n 1, 1) := by decide +kernel
theorem dX11_undoes_166 : decode cX11_undoes 166 = .ok (.invokevirtual 316, 3) := by decide +kernel
theorem dX11_undoes_169 : decode cX11_undoes 169 = .ok (.return_, 1) := by decide +kernel
set_option maxRecDepth 20000 in
theorem ggX11_dies_X11_undoes : GoodIn wsX11_dies wsX11_undoes := goodIn_r _ [5, 6, 7, 8, 9, 10, 11, 12, 13, 4, 14, 15, 16, 17, 18, 19, 20, 21, 22, 23, 24, 25, 26, 27, 28, 29, 30, 31, 32, 33, 34, 35, 36, 37, 38, 39, 40, 41, 42, 43, 44, 45, 46, 47, 48, 49, 50, 51, 52, 53, 54, 55, 56, 57, 58, 59, 60, 61, 62, 63, 64, 65, 66, 67, 68, 69, 70, 71, 72, 73, 74, 75, 76, 77, 78, 79, 80, 81, 82, 83, 84, 85, 86, 87, 88, 89] (by decide +kernel) (by decide +kernel)
set_option maxRecDepth 20000 in
theorem gX11_dies_X11_undoes : GoodIn wsX11_dies (wsV RX11 320 RX11 yX11_undoes wsX11_undoes) := goodIn_app (goodIn_of _ (by decide +kernel)) ggX11_dies_X11_undoes
set_option maxRecDepth 20000 in
theorem ggX11_dies_X11_of : GoodIn wsX11_dies wsX11_of := goodIn_r _ [14, 15, 6, 44, 45, 46, 47, 48, 49, 50, 51, 52, 53, 54, 55, 56, 57, 58, 59, 60, 61, 62, 63, 64, 65, 66, 67, 68, 69, 70, 71, 72, 73, 74, 75, 76, 77, 78, 79, 80, 81, 82, 83, 84, 85, 86, 87, 88, 89] (by decide +kernel) (by decide +kernel)
set_option maxRecDepth 20000 in
theorem gX11_dies_X11_of : GoodIn wsX11_dies (wsV RX11 234 RX11 yX11_of wsX11_of) := goodIn_app (goodIn_of _ (by decide +kernel)) ggX11_dies_X11_of
set_option maxRecDepth 20000 in
theorem ggX11_dies_X11_lay : GoodIn wsX11_dies wsX11_lay := goodIn_r _ [27, 15, 6, 44, 45, 46, 47, 48, 49, 50, 51, 52, 53, 54, 55, 56, 57, 58, 59, 60, 61, 62, 63, 64, 65, 66, 67, 68, 69, 70, 71, 72, 73, 74, 75, 76, 77, 78, 79, 80, 81, 82, 83, 84, 85, 86, 87, 88, 89] (by decide +kernel) (by decide +kernel)
set_option maxRecDepth 20000 in
theorem gX11_dies_X11_lay : GoodIn wsX11_dies (wsV RX11 250 RX11 yX11_lay wsX11_lay) := goodIn_app (goodIn_of _ (by decide +kernel)) ggX11_dies_X11_lay
theorem dX11_dies_0 : decode cX11_dies 0 = .ok (.aload_n 0, 1) := by decide +kernel
theorem dX11_dies_1 : decode cX11_dies 1 = .ok (.iload_n 1, 1) := by decide +kernel
theorem dX11_dies_2 : decode cX11_dies 2 = .ok (.invokevirtual 320, 3) := by decide +kernel
theorem dX11_dies_5 : decode cX11_dies 5 = .ok (.aload_n 0, 1) := by decide +kernel
theorem dX11_dies_6 : decode cX11_dies 6 = .ok (.sipush 175, 3) := by decide +kernel
theorem dX11_dies_9 : decode cX11_dies 9 = .ok (.iload_n 1, 1) := by decide +kernel
theorem dX11_dies_10 : decode cX11_dies 10 = .ok (.iadd, 1) := by decide +kernel
theorem dX11_dies_11 : decode cX11_dies 11 = .ok (.aload_n 0, 1) := by decide +kernel
theorem dX11_dies_12 : decode cX11_dies 12 = .ok (.sipush 175, 3) := by decide +kernel
theorem dX11_dies_15 : decode cX11_dies 15 = .ok (.iload_n 1, 1) := by decide +kernel
theorem dX11_dies_16 : decode cX11_dies 16 = .ok (.iadd, 1) := by decide +kernel
theorem dX11_dies_17 : decode cX11_dies 17 = .ok (.invokevirtual 234, 3) := by decide +kernel
theorem dX11_dies_20 : decode cX11_dies 20 = .ok (.iconst 1, 1) := by decide +kernel
theorem dX11_dies_21 : decode cX11_dies 21 = .ok (.iadd, 1) := by decide +kernel
theorem dX11_dies_22 : decode cX11_dies 22 = .ok (.invokevirtual 250, 3) := by decide +kernel
theorem dX11_dies_25 : decode cX11_dies 25 = .ok (.aload_n 0, 1) := by decide +kernel
theorem dX11_dies_26 : decode cX11_dies 26 = .ok (.sipush 220, 3) := by decide +kernel
theorem dX11_dies_29 : decode cX11_dies 29 = .ok (.iload_n 1, 1) := by decide +kernel
theorem dX11_dies_30 : decode cX11_dies 30 = .ok (.iadd, 1) := by decide +kernel
theorem dX11_dies_31 : decode cX11_dies 31 = .ok (.bipush (-3), 2) := by decide +kernel
theorem dX11_dies_33 : decode cX11_dies 33 = .ok (.invokevirtual 250, 3) := by decide +kernel
theorem dX11_dies_36 : decode cX11_dies 36 = .ok (.return_, 1) := by decide +kernel
set_option maxRecDepth 20000 in
theorem ggX11_waitsBy_X11_lay : GoodIn wsX11_waitsBy wsX11_lay := goodIn_r _ [7, 8, 9, 14, 15, 16, 17, 18, 19, 20, 21, 22, 23, 24, 25, 26, 27, 28, 29, 30, 31, 32, 33, 34, 35, 36, 37, 38, 39, 40, 41, 42, 43, 44, 45, 46, 47, 48, 49, 50, 51, 52, 53, 54, 55, 56, 57, 58, 59] (by decide +kernel) (by decide +kernel)
set_option maxRecDepth 20000 in
theorem gX11_waitsBy_X11_lay : GoodIn wsX11_waitsBy (wsV RX11 250 RX11 yX11_lay wsX11_lay) := goodIn_app (goodIn_of _ (by decide +kernel)) ggX11_waitsBy_X11_lay
set_option maxRecDepth 20000 in
theorem ggX11_waitsBy_X11_of : GoodIn wsX11_waitsBy wsX11_of := goodIn_r _ [13, 8, 9, 14, 15, 16, 17, 18, 19, 20, 21, 22, 23, 24, 25, 26, 27, 28, 29, 30, 31, 32, 33, 34, 35, 36, 37, 38, 39, 40, 41, 42, 43, 44, 45, 46, 47, 48, 49, 50, 51, 52, 53, 54, 55, 56, 57, 58, 59] (by decide +kernel) (by decide +kernel)
set_option maxRecDepth 20000 in
theorem gX11_waitsBy_X11_of : GoodIn wsX11_waitsBy (wsV RX11 234 RX11 yX11_of wsX11_of) := goodIn_app (goodIn_of _ (by decide +kernel)) ggX11_waitsBy_X11_of
theorem dX11_waitsBy_0 : decode cX11_waitsBy 0 = .ok (.aload_n 0, 1) := by decide +kernel
theorem dX11_waitsBy_1 : decode cX11_waitsBy 1 = .ok (.sipush 170, 3) := by decide +kernel
theorem dX11_waitsBy_4 : decode cX11_waitsBy 4 = .ok (.iload_n 1, 1) := by decide +kernel
theorem dX11_waitsBy_5 : decode cX11_waitsBy 5 = .ok (.iadd, 1) := by decide +kernel
theorem dX11_waitsBy_6 : decode cX11_waitsBy 6 = .ok (.iconst 2, 1) := by decide +kernel
theorem dX11_waitsBy_7 : decode cX11_waitsBy 7 = .ok (.invokevirtual 250, 3) := by decide +kernel
theorem dX11_waitsBy_10 : decode cX11_waitsBy 10 = .ok (.aload_n 0, 1) := by decide +kernel
theorem dX11_waitsBy_11 : decode cX11_waitsBy 11 = .ok (.sipush 210, 3) := by decide +kernel
theorem dX11_waitsBy_14 : decode cX11_waitsBy 14 = .ok (.iload_n 1, 1) := by decide +kernel
theorem dX11_waitsBy_15 : decode cX11_waitsBy 15 = .ok (.iadd, 1) := by decide +kernel
theorem dX11_waitsBy_16 : decode cX11_waitsBy 16 = .ok (.aload_n 0, 1) := by decide +kernel
theorem dX11_waitsBy_17 : decode cX11_waitsBy 17 = .ok (.getfield 281, 3) := by decide +kernel
theorem dX11_waitsBy_20 : decode cX11_waitsBy 20 = .ok (.invokevirtual 250, 3) := by decide +kernel
theorem dX11_waitsBy_23 : decode cX11_waitsBy 23 = .ok (.aload_n 0, 1) := by decide +kernel
theorem dX11_waitsBy_24 : decode cX11_waitsBy 24 = .ok (.sipush 215, 3) := by decide +kernel
theorem dX11_waitsBy_27 : decode cX11_waitsBy 27 = .ok (.iload_n 1, 1) := by decide +kernel
theorem dX11_waitsBy_28 : decode cX11_waitsBy 28 = .ok (.iadd, 1) := by decide +kernel
theorem dX11_waitsBy_29 : decode cX11_waitsBy 29 = .ok (.aload_n 0, 1) := by decide +kernel
theorem dX11_waitsBy_30 : decode cX11_waitsBy 30 = .ok (.getfield 284, 3) := by decide +kernel
theorem dX11_waitsBy_33 : decode cX11_waitsBy 33 = .ok (.invokevirtual 250, 3) := by decide +kernel
theorem dX11_waitsBy_36 : decode cX11_waitsBy 36 = .ok (.aload_n 0, 1) := by decide +kernel
theorem dX11_waitsBy_37 : decode cX11_waitsBy 37 = .ok (.sipush 225, 3) := by decide +kernel
theorem dX11_waitsBy_40 : decode cX11_waitsBy 40 = .ok (.aload_n 0, 1) := by decide +kernel
theorem dX11_waitsBy_41 : decode cX11_waitsBy 41 = .ok (.sipush 225, 3) := by decide +kernel
theorem dX11_waitsBy_44 : decode cX11_waitsBy 44 = .ok (.invokevirtual 234, 3) := by decide +kernel
theorem dX11_waitsBy_47 : decode cX11_waitsBy 47 = .ok (.iconst 1, 1) := by decide +kernel
theorem dX11_waitsBy_48 : decode cX11_waitsBy 48 = .ok (.iadd, 1) := by decide +kernel
theorem dX11_waitsBy_49 : decode cX11_waitsBy 49 = .ok (.invokevirtual 250, 3) := by decide +kernel
theorem dX11_waitsBy_52 : decode cX11_waitsBy 52 = .ok (.aload_n 0, 1) := by decide +kernel
theorem dX11_waitsBy_53 : decode cX11_waitsBy 53 = .ok (.sipush 185, 3) := by decide +kernel
theorem dX11_waitsBy_56 : decode cX11_waitsBy 56 = .ok (.iload_n 1, 1) := by decide +kernel
theorem dX11_waitsBy_57 : decode cX11_waitsBy 57 = .ok (.iadd, 1) := by decide +kernel
theorem dX11_waitsBy_58 : decode cX11_waitsBy 58 = .ok (.aload_n 0, 1) := by decide +kernel
theorem dX11_waitsBy_59 : decode cX11_waitsBy 59 = .ok (.sipush 225, 3) := by decide +kernel
theorem dX11_waitsBy_62 : decode cX11_waitsBy 62 = .ok (.invokevirtual 234, 3) := by decide +kernel
theorem dX11_waitsBy_65 : decode cX11_waitsBy 65 = .ok (.invokevirtual 250, 3) := by decide +kernel
theorem dX11_waitsBy_68 : decode cX11_waitsBy 68 = .ok (.aload_n 0, 1) := by decide +kernel
theorem dX11_waitsBy_69 : decode cX11_waitsBy 69 = .ok (.sipush 220, 3) := by decide +kernel
theorem dX11_waitsBy_72 : decode cX11_waitsBy 72 = .ok (.iload_n 1, 1) := by decide +kernel
theorem dX11_waitsBy_73 : decode cX11_waitsBy 73 = .ok (.iadd, 1) := by decide +kernel
theorem dX11_waitsBy_74 : decode cX11_waitsBy 74 = .ok (.bipush (-2), 2) := by decide +kernel
theorem dX11_waitsBy_76 : decode cX11_waitsBy 76 = .ok (.invokevirtual 250, 3) := by decide +kernel
theorem dX11_waitsBy_79 : decode cX11_waitsBy 79 = .ok (.return_, 1) := by decide +kernel
set_option maxRecDepth 20000 in
theorem ggX11_waitsAt_X11_of : GoodIn wsX11_waitsAt wsX11_of := goodIn_r _ [6, 7, 8, 9, 10, 11, 12, 13, 14, 15, 16, 17, 18, 19, 20, 21, 22, 23, 24, 25, 26, 27, 28, 29, 30, 31, 32, 33, 34, 35, 36, 37, 38, 39, 40, 41, 42, 43, 44, 45, 46, 47, 48, 49, 50, 51, 52, 53, 54] (by decide +kernel) (by decide +kernel)
set_option maxRecDepth 20000 in
theorem gX11_waitsAt_X11_of : GoodIn wsX11_waitsAt (wsV RX11 234 RX11 yX11_of wsX11_of) := goodIn_app (goodIn_of _ (by decide +kernel)) ggX11_waitsAt_X11_of
theorem dX11_waitsAt_0 : decode cX11_waitsAt 0 = .ok (.iconst 0, 1) := by decide +kernel
theorem dX11_waitsAt_1 : decode cX11_waitsAt 1 = .ok (.istore_n 2, 1) := by decide +kernel
theorem dX11_waitsAt_2 : decode cX11_waitsAt 2 = .ok (.iload_n 2, 1) := by decide +kernel
theorem dX11_waitsAt_3 : decode cX11_waitsAt 3 = .ok (.aload_n 0, 1) := by decide +kernel
theorem dX11_waitsAt_4 : decode cX11_waitsAt 4 = .ok (.getfield 189, 3) := by decide +kernel
theorem dX11_waitsAt_7 : decode cX11_waitsAt 7 = .ok (.if_icmp .ge 106, 3) := by decide +kernel
theorem dX11_waitsAt_10 : decode cX11_waitsAt 10 = .ok (.iconst 0, 1) := by decide +kernel
theorem dX11_waitsAt_11 : decode cX11_waitsAt 11 = .ok (.istore_n 3, 1) := by decide +kernel
theorem dX11_waitsAt_12 : decode cX11_waitsAt 12 = .ok (.iconst 0, 1) := by decide +kernel
theorem dX11_waitsAt_13 : decode cX11_waitsAt 13 = .ok (.istore 4, 2) := by decide +kernel
theorem dX11_waitsAt_15 : decode cX11_waitsAt 15 = .ok (.iload 4, 2) := by decide +kernel
theorem dX11_waitsAt_17 : decode cX11_waitsAt 17 = .ok (.aload_n 0, 1) := by decide +kernel
theorem dX11_waitsAt_18 : decode cX11_waitsAt 18 = .ok (.getfield 189, 3) := by decide +kernel
theorem dX11_waitsAt_21 : decode cX11_waitsAt 21 = .ok (.if_icmp .ge 66, 3) := by decide +kernel
theorem dX11_waitsAt_24 : decode cX11_waitsAt 24 = .ok (.aload_n 0, 1) := by decide +kernel
theorem dX11_waitsAt_25 : decode cX11_waitsAt 25 = .ok (.sipush 170, 3) := by decide +kernel
theorem dX11_waitsAt_28 : decode cX11_waitsAt 28 = .ok (.iload_n 2, 1) := by decide +kernel
theorem dX11_waitsAt_29 : decode cX11_waitsAt 29 = .ok (.iadd, 1) := by decide +kernel
theorem dX11_waitsAt_30 : decode cX11_waitsAt 30 = .ok (.invokevirtual 234, 3) := by decide +kernel
theorem dX11_waitsAt_33 : decode cX11_waitsAt 33 = .ok (.iconst 2, 1) := by decide +kernel
theorem dX11_waitsAt_34 : decode cX11_waitsAt 34 = .ok (.if_icmp .ne 53, 3) := by decide +kernel
theorem dX11_waitsAt_37 : decode cX11_waitsAt 37 = .ok (.iload_n 3, 1) := by decide +kernel
theorem dX11_waitsAt_38 : decode cX11_waitsAt 38 = .ok (.aload_n 0, 1) := by decide +kernel
theorem dX11_waitsAt_39 : decode cX11_waitsAt 39 = .ok (.sipush 170, 3) := by decide +kernel
theorem dX11_waitsAt_42 : decode cX11_waitsAt 42 = .ok (.iload 4, 2) := by decide +kernel
theorem dX11_waitsAt_44 : decode cX11_waitsAt 44 = .ok (.iadd, 1) := by decide +kernel
theorem dX11_waitsAt_45 : decode cX11_waitsAt 45 = .ok (.invokevirtual 234, 3) := by decide +kernel
theorem dX11_waitsAt_48 : decode cX11_waitsAt 48 = .ok (.iconst 2, 1) := by decide +kernel
theorem dX11_waitsAt_49 : decode cX11_waitsAt 49 = .ok (.if_icmp .ne 29, 3) := by decide +kernel
theorem dX11_waitsAt_52 : decode cX11_waitsAt 52 = .ok (.aload_n 0, 1) := by decide +kernel
theorem dX11_waitsAt_53 : decode cX11_waitsAt 53 = .ok (.sipush 185, 3) := by decide +kernel
theorem dX11_waitsAt_56 : decode cX11_waitsAt 56 = .ok (.iload 4, 2) := by decide +kernel
theorem dX11_waitsAt_58 : decode cX11_waitsAt 58 = .ok (.iadd, 1) := by decide +kernel
theorem dX11_waitsAt_59 : decode cX11_waitsAt 59 = .ok (.invokevirtual 234, 3) := by decide +kernel
theorem dX11_waitsAt_62 : decode cX11_waitsAt 62 = .ok (.aload_n 0, 1) := by decide +kernel
theorem dX11_waitsAt_63 : decode cX11_waitsAt 63 = .ok (.sipush 185, 3) := by decide +kernel
theorem dX11_waitsAt_66 : decode cX11_waitsAt 66 = .ok (.iload_n 2, 1) := by decide +kernel
theorem dX11_waitsAt_67 : decode cX11_waitsAt 67 = .ok (.iadd, 1) := by decide +kernel
theorem dX11_waitsAt_68 : decode cX11_waitsAt 68 = .ok (.invokevirtual 234, 3) := by decide +kernel
theorem dX11_waitsAt_71 : decode cX11_waitsAt 71 = .ok (.if_icmp .ge 7, 3) := by decide +kernel
theorem dX11_waitsAt_74 : decode cX11_waitsAt 74 = .ok (.iconst 1, 1) := by decide +kernel
theorem dX11_waitsAt_75 : decode cX11_waitsAt 75 = .ok (.goto 4, 3) := by decide +kernel
theorem dX11_waitsAt_78 : decode cX11_waitsAt 78 = .ok (.iconst 0, 1) := by decide +kernel
theorem dX11_waitsAt_79 : decode cX11_waitsAt 79 = .ok (.iadd, 1) := by decide +kernel
theorem dX11_waitsAt_80 : decode cX11_waitsAt 80 = .ok (.istore_n 3, 1) := by decide +kernel
theorem dX11_waitsAt_81 : decode cX11_waitsAt 81 = .ok (.iinc 4 1, 3) := by decide +kernel
theorem dX11_waitsAt_84 : decode cX11_waitsAt 84 = .ok (.goto (-69), 3) := by decide +kernel
theorem dX11_waitsAt_87 : decode cX11_waitsAt 87 = .ok (.aload_n 0, 1) := by decide +kernel
theorem dX11_waitsAt_88 : decode cX11_waitsAt 88 = .ok (.sipush 170, 3) := by decide +kernel
theorem dX11_waitsAt_91 : decode cX11_waitsAt 91 = .ok (.iload_n 2, 1) := by decide +kernel
theorem dX11_waitsAt_92 : decode cX11_waitsAt 92 = .ok (.iadd, 1) := by decide +kernel
theorem dX11_waitsAt_93 : decode cX11_waitsAt 93 = .ok (.invokevirtual 234, 3) := by decide +kernel
theorem dX11_waitsAt_96 : decode cX11_waitsAt 96 = .ok (.iconst 2, 1) := by decide +kernel
theorem dX11_waitsAt_97 : decode cX11_waitsAt 97 = .ok (.if_icmp .ne 10, 3) := by decide +kernel
theorem dX11_waitsAt_100 : decode cX11_waitsAt 100 = .ok (.iload_n 3, 1) := by decide +kernel
theorem dX11_waitsAt_101 : decode cX11_waitsAt 101 = .ok (.iload_n 1, 1) := by decide +kernel
theorem dX11_waitsAt_102 : decode cX11_waitsAt 102 = .ok (.if_icmp .ne 5, 3) := by decide +kernel
theorem dX11_waitsAt_105 : decode cX11_waitsAt 105 = .ok (.iload_n 2, 1) := by decide +kernel
theorem dX11_waitsAt_106 : decode cX11_waitsAt 106 = .ok (.ireturn, 1) := by decide +kernel
theorem dX11_waitsAt_107 : decode cX11_waitsAt 107 = .ok (.iinc 2 1, 3) := by decide +kernel
theorem dX11_waitsAt_110 : decode cX11_waitsAt 110 = .ok (.goto (-108), 3) := by decide +kernel
theorem dX11_waitsAt_113 : decode cX11_waitsAt 113 = .ok (.iconst (-1), 1) := by decide +kernel
theorem dX11_waitsAt_114 : decode cX11_waitsAt 114 = .ok (.ireturn, 1) := by decide +kernel
set_option maxRecDepth 20000 in
theorem ggX11_isGoing_X11_does : GoodIn wsX11_isGoing wsX11_does := goodIn_r _ [9, 10, 11, 12, 8, 13, 14, 15, 16, 17, 18, 19, 20, 21, 22, 23, 24, 25, 26, 27, 28, 29, 30, 31, 32, 33, 34, 35, 36, 4, 1, 2, 37, 38, 39, 40, 41, 42, 43, 44, 45, 46, 47, 48, 49, 50, 51, 52, 53, 54, 55, 56, 57, 58, 59, 60, 61, 62, 63, 64, 65, 66, 67, 68, 69, 102, 103, 104, 105, 106, 107, 108, 109, 110, 111, 112, 113, 114, 115, 116, 117, 118, 119, 120, 121, 122, 123, 124, 125, 126, 127, 128, 129, 130, 131, 132, 133, 134, 135, 136, 137, 138, 139, 140, 141, 142, 143, 144, 145, 146, 147] (by decide +kernel) (by decide +kernel)
set_option maxRecDepth 20000 in
theorem gX11_isGoing_X11_does : GoodIn wsX11_isGoing (wsV RX11 323 RX11 yX11_does wsX11_does) := goodIn_app (goodIn_of _ (by decide +kernel)) ggX11_isGoing_X11_does
set_option maxRecDepth 20000 in
theorem ggX11_isGoing_X11_lay : GoodIn wsX11_isGoing wsX11_lay := goodIn_r _ [32, 14, 15, 102, 103, 104, 105, 106, 107, 108, 109, 110, 111, 112, 113, 114, 115, 116, 117, 118, 119, 120, 121, 122, 123, 124, 125, 126, 127, 128, 129, 130, 131, 132, 133, 134, 135, 136, 137, 138, 139, 140, 141, 142, 143, 144, 145, 146, 147] (by decide +kernel) (by decide +kernel)
set_option maxRecDepth 20000 in
theorem gX11_isGoing_X11_lay : GoodIn wsX11_isGoing (wsV RX11 250 RX11 yX11_lay wsX11_lay) := goodIn_app (goodIn_of _ (by decide +kernel)) ggX11_isGoing_X11_lay
set_option maxRecDepth 20000 in
theorem ggX11_isGoing_X11_of : GoodIn wsX11_isGoing wsX11_of := goodIn_r _ [13, 14, 15, 102, 103, 104, 105, 106, 107, 108, 109, 110, 111, 112, 113, 114, 115, 116, 117, 118, 119, 120, 121, 122, 123, 124, 125, 126, 127, 128, 129, 130, 131, 132, 133, 134, 135, 136, 137, 138, 139, 140, 141, 142, 143, 144, 145, 146, 147] (by decide +kernel) (by decide +kernel)
set_option maxRecDepth 20000 in
theorem gX11_isGoing_X11_of : GoodIn wsX11_isGoing (wsV RX11 234 RX11 yX11_of wsX11_of) := goodIn_app (goodIn_of _ (by decide +kernel)) ggX11_isGoing_X11_of
set_option maxRecDepth 20000 in
theorem ggX11_isGoing_X11_isRing : GoodIn wsX11_isGoing wsX11_isRing := goodIn_r _ [73, 74, 75, 76, 8, 77, 78, 79, 80, 81, 10, 11, 12, 13, 14, 15, 21, 22, 23, 24, 25, 26, 27, 28, 42, 43, 44, 45, 102, 103, 104, 105, 106, 107, 108, 109, 110, 111, 112, 113, 114, 115, 116, 117, 118, 119, 120, 121, 122, 123, 124, 125, 126, 127, 128, 129, 130, 131, 132, 133, 134, 135, 136, 137, 138, 139, 140, 141, 142, 143, 144, 145, 146, 147] (by decide +kernel) (by decide +kernel)
set_option maxRecDepth 20000 in
theorem gX11_isGoing_X11_isRing : GoodIn wsX11_isGoing (wsV RX11 326 RX11 yX11_isRing wsX11_isRing) := goodIn_app (goodIn_of _ (by decide +kernel)) ggX11_isGoing_X11_isRing
set_option maxRecDepth 20000 in
theorem ggX11_isGoing_X11_dies : GoodIn wsX11_isGoing wsX11_dies := goodIn_r _ [85, 86, 87, 88, 8, 89, 15, 50, 52, 51, 53, 10, 11, 12, 13, 14, 21, 22, 23, 24, 25, 26, 27, 28, 29, 30, 31, 32, 90, 91, 92, 93, 58, 59, 60, 61, 62, 63, 64, 65, 94, 95, 96, 97, 102, 103, 104, 105, 106, 107, 108, 109, 110, 111, 112, 113, 114, 115, 116, 117, 118, 119, 120, 121, 122, 123, 124, 125, 126, 127, 128, 129, 130, 131, 132, 133, 134, 135, 136, 137, 138, 139, 140, 141, 142, 143, 144, 145, 146, 147] (by decide +kernel) (by decide +kernel)
set_option maxRecDepth 20000 in
theorem gX11_isGoing_X11_dies : GoodIn wsX11_isGoing (wsV RX11 329 RX11 yX11_dies wsX11_dies) := goodIn_app (goodIn_of _ (by decide +kernel)) ggX11_isGoing_X11_dies
set_option maxRecDepth 20000 in
theorem ggX11_isGoing_X11_waitsBy : GoodIn wsX11_isGoing wsX11_waitsBy := goodIn_r _ [101, 1, 2, 29, 30, 31, 8, 32, 14, 15, 10, 11, 12, 13, 102, 103, 104, 105, 106, 107, 108, 109, 110, 111, 112, 113, 114, 115, 116, 117, 118, 119, 120, 121, 122, 123, 124, 125, 126, 127, 128, 129, 130, 131, 132, 133, 134, 135, 136, 137, 138, 139, 140, 141, 142, 143, 144, 145, 146, 147] (by decide +kernel) (by decide +kernel)
set_option maxRecDepth 20000 in
theorem gX11_isGoing_X11_waitsBy : GoodIn wsX11_isGoing (wsV RX11 332 RX11 yX11_waitsBy wsX11_waitsBy) := goodIn_app (goodIn_of _ (by decide +kernel)) ggX11_isGoing_X11_waitsBy
theorem dX11_isGoing_0 : decode cX11_isGoing 0 = .ok (.aload_n 0, 1) := by decide +kernel
theorem dX11_isGoing_1 : decode cX11_isGoing 1 = .ok (.iload_n 1, 1) := by decide +kernel
theorem dX11_isGoing_2 : decode cX11_isGoing 2 = .ok (.invokevirtual 323, 3) := by decide +kernel
theorem dX11_isGoing_5 : decode cX11_isGoing 5 = .ok (.istore_n 2, 1) := by decide +kernel
theorem dX11_isGoing_6 : decode cX11_isGoing 6 = .ok (.iload_n 2, 1) := by decide +kernel
theorem dX11_isGoing_7 : decode cX11_isGoing 7 = .ok (.bipush (-2), 2) := by decide +kernel
theorem dX11_isGoing_9 : decode cX11_isGoing 9 = .ok (.if_icmp .eq 35, 3) := by decide +kernel
theorem dX11_isGoing_12 : decode cX11_isGoing 12 = .ok (.aload_n 0, 1) := by decide +kernel
theorem dX11_isGoing_13 : decode cX11_isGoing 13 = .ok (.sipush 170, 3) := by decide +kernel
theorem dX11_isGoing_16 : decode cX11_isGoing 16 = .ok (.iload_n 1, 1) := by decide +kernel
theorem dX11_isGoing_17 : decode cX11_isGoing 17 = .ok (.iadd, 1) := by decide +kernel
theorem dX11_isGoing_18 : decode cX11_isGoing 18 = .ok (.iconst 1, 1) := by decide +kernel
theorem dX11_isGoing_19 : decode cX11_isGoing 19 = .ok (.invokevirtual 250, 3) := by decide +kernel
theorem dX11_isGoing_22 : decode cX11_isGoing 22 = .ok (.aload_n 0, 1) := by decide +kernel
theorem dX11_isGoing_23 : decode cX11_isGoing 23 = .ok (.sipush 210, 3) := by decide +kernel
theorem dX11_isGoing_26 : decode cX11_isGoing 26 = .ok (.iload_n 1, 1) := by decide +kernel
theorem dX11_isGoing_27 : decode cX11_isGoing 27 = .ok (.iadd, 1) := by decide +kernel
theorem dX11_isGoing_28 : decode cX11_isGoing 28 = .ok (.iconst 0, 1) := by decide +kernel
theorem dX11_isGoing_29 : decode cX11_isGoing 29 = .ok (.invokevirtual 250, 3) := by decide +kernel
theorem dX11_isGoing_32 : decode cX11_isGoing 32 = .ok (.aload_n 0, 1) := by decide +kernel
theorem dX11_isGoing_33 : decode cX11_isGoing 33 = .ok (.sipush 220, 3) := by decide +kernel
theorem dX11_isGoing_36 : decode cX11_isGoing 36 = .ok (.iload_n 1, 1) := by decide +kernel
theorem dX11_isGoing_37 : decode cX11_isGoing 37 = .ok (.iadd, 1) := by decide +kernel
theorem dX11_isGoing_38 : decode cX11_isGoing 38 = .ok (.iload_n 2, 1) := by decide +kernel
theorem dX11_isGoing_39 : decode cX11_isGoing 39 = .ok (.invokevirtual 250, 3) := by decide +kernel
theorem dX11_isGoing_42 : decode cX11_isGoing 42 = .ok (.iconst 1, 1) := by decide +kernel
theorem dX11_isGoing_43 : decode cX11_isGoing 43 = .ok (.ireturn, 1) := by decide +kernel
theorem dX11_isGoing_44 : decode cX11_isGoing 44 = .ok (.aload_n 0, 1) := by decide +kernel
theorem dX11_isGoing_45 : decode cX11_isGoing 45 = .ok (.getfield 281, 3) := by decide +kernel
theorem dX11_isGoing_48 : decode cX11_isGoing 48 = .ok (.aload_n 0, 1) := by decide +kernel
theorem dX11_isGoing_49 : decode cX11_isGoing 49 = .ok (.sipush 210, 3) := by decide +kernel
theorem dX11_isGoing_52 : decode cX11_isGoing 52 = .ok (.iload_n 1, 1) := by decide +kernel
theorem dX11_isGoing_53 : decode cX11_isGoing 53 = .ok (.iadd, 1) := by decide +kernel
theorem dX11_isGoing_54 : decode cX11_isGoing 54 = .ok (.invokevirtual 234, 3) := by decide +kernel
theorem dX11_isGoing_57 : decode cX11_isGoing 57 = .ok (.if_icmp .ne 21, 3) := by decide +kernel
theorem dX11_isGoing_60 : decode cX11_isGoing 60 = .ok (.aload_n 0, 1) := by decide +kernel
theorem dX11_isGoing_61 : decode cX11_isGoing 61 = .ok (.getfield 284, 3) := by decide +kernel
theorem dX11_isGoing_64 : decode cX11_isGoing 64 = .ok (.aload_n 0, 1) := by decide +kernel
theorem dX11_isGoing_65 : decode cX11_isGoing 65 = .ok (.sipush 215, 3) := by decide +kernel
theorem dX11_isGoing_68 : decode cX11_isGoing 68 = .ok (.iload_n 1, 1) := by decide +kernel
theorem dX11_isGoing_69 : decode cX11_isGoing 69 = .ok (.iadd, 1) := by decide +kernel
theorem dX11_isGoing_70 : decode cX11_isGoing 70 = .ok (.invokevirtual 234, 3) := by decide +kernel
theorem dX11_isGoing_73 : decode cX11_isGoing 73 = .ok (.if_icmp .ne 5, 3) := by decide +kernel
theorem dX11_isGoing_76 : decode cX11_isGoing 76 = .ok (.iconst 0, 1) := by decide +kernel
theorem dX11_isGoing_77 : decode cX11_isGoing 77 = .ok (.ireturn, 1) := by decide +kernel
theorem dX11_isGoing_78 : decode cX11_isGoing 78 = .ok (.aload_n 0, 1) := by decide +kernel
theorem dX11_isGoing_79 : decode cX11_isGoing 79 = .ok (.sipush 170, 3) := by decide +kernel
theorem dX11_isGoing_82 : decode cX11_isGoing 82 = .ok (.iload_n 1, 1) := by decide +kernel
theorem dX11_isGoing_83 : decode cX11_isGoing 83 = .ok (.iadd, 1) := by decide +kernel
theorem dX11_isGoing_84 : decode cX11_isGoing 84 = .ok (.iconst 1, 1) := by decide +kernel
theorem dX11_isGoing_85 : decode cX11_isGoing 85 = .ok (.invokevirtual 250, 3) := by decide +kernel
theorem dX11_isGoing_88 : decode cX11_isGoing 88 = .ok (.aload_n 0, 1) := by decide +kernel
theorem dX11_isGoing_89 : decode cX11_isGoing 89 = .ok (.getfield 244, 3) := by decide +kernel
theorem dX11_isGoing_92 : decode cX11_isGoing 92 = .ok (.ifCond .ne 15, 3) := by decide +kernel
theorem dX11_isGoing_95 : decode cX11_isGoing 95 = .ok (.aload_n 0, 1) := by decide +kernel
theorem dX11_isGoing_96 : decode cX11_isGoing 96 = .ok (.aload_n 0, 1) := by decide +kernel
theorem dX11_isGoing_97 : decode cX11_isGoing 97 = .ok (.getfield 278, 3) := by decide +kernel
theorem dX11_isGoing_100 : decode cX11_isGoing 100 = .ok (.iload_n 1, 1) := by decide +kernel
theorem dX11_isGoing_101 : decode cX11_isGoing 101 = .ok (.invokevirtual 326, 3) := by decide +kernel
theorem dX11_isGoing_104 : decode cX11_isGoing 104 = .ok (.ifCond .eq 11, 3) := by decide +kernel
theorem dX11_isGoing_107 : decode cX11_isGoing 107 = .ok (.aload_n 0, 1) := by decide +kernel
theorem dX11_isGoing_108 : decode cX11_isGoing 108 = .ok (.iload_n 1, 1) := by decide +kernel
theorem dX11_isGoing_109 : decode cX11_isGoing 109 = .ok (.invokevirtual 329, 3) := by decide +kernel
theorem dX11_isGoing_112 : decode cX11_isGoing 112 = .ok (.goto 8, 3) := by decide +kernel
theorem dX11_isGoing_115 : decode cX11_isGoing 115 = .ok (.aload_n 0, 1) := by decide +kernel
theorem dX11_isGoing_116 : decode cX11_isGoing 116 = .ok (.iload_n 1, 1) := by decide +kernel
theorem dX11_isGoing_117 : decode cX11_isGoing 117 = .ok (.invokevirtual 332, 3) := by decide +kernel
theorem dX11_isGoing_120 : decode cX11_isGoing 120 = .ok (.iconst 1, 1) := by decide +kernel
theorem dX11_isGoing_121 : decode cX11_isGoing 121 = .ok (.ireturn, 1) := by decide +kernel
set_option maxRecDepth 20000 in
theorem ggX11_goOn_X11_waitsAt : GoodIn wsX11_goOn wsX11_waitsAt := goodIn_r _ [5, 6, 7, 8, 9, 4, 10, 11, 12, 110, 111, 112, 113, 114, 115, 116, 117, 118, 119, 120, 121, 122, 123, 124, 125, 126, 127, 128, 129, 130, 131, 132, 133, 134, 135, 136, 137, 138, 139, 140, 141, 142, 143, 144, 145, 146, 147, 148, 149, 150, 151, 152, 153, 154, 155] (by decide +kernel) (by decide +kernel)
set_option maxRecDepth 20000 in
theorem gX11_goOn_X11_waitsAt : GoodIn wsX11_goOn (wsV RX11 335 RX11 yX11_waitsAt wsX11_waitsAt) := goodIn_app (goodIn_of _ (by decide +kernel)) ggX11_goOn_X11_waitsAt
set_option maxRecDepth 20000 in
theorem ggX11_goOn_X11_isGoing : GoodIn wsX11_goOn wsX11_isGoing := goodIn_r _ [16, 17, 18, 19, 20, 21, 22, 23, 4, 24, 7, 8, 9, 10, 11, 12, 25, 26, 27, 28, 29, 30, 31, 32, 33, 34, 35, 36, 37, 38, 39, 40, 41, 42, 43, 44, 45, 46, 47, 48, 49, 50, 51, 52, 53, 54, 55, 56, 57, 58, 59, 60, 61, 62, 63, 64, 65, 66, 67, 68, 69, 70, 71, 72, 73, 74, 75, 76, 77, 78, 79, 80, 81, 82, 6, 83, 84, 85, 86, 87, 88, 89, 90, 91, 92, 93, 94, 95, 96, 97, 98, 99, 100, 101, 102, 103, 104, 105, 106, 107, 108, 109, 110, 111, 112, 113, 114, 115, 116, 117, 118, 119, 120, 121, 122, 123, 124, 125, 126, 127, 128, 129, 130, 131, 132, 133, 134, 135, 136, 137, 138, 139, 140, 141, 142, 143, 144, 145, 146, 147, 148, 149, 150, 151, 152, 153, 154, 155] (by decide +kernel) (by decide +kernel)
set_option maxRecDepth 20000 in
theorem gX11_goOn_X11_isGoing : GoodIn wsX11_goOn (wsV RX11 338 RX11 yX11_isGoing wsX11_isGoing) := goodIn_app (goodIn_of _ (by decide +kernel)) ggX11_goOn_X11_isGoing
theorem dX11_goOn_0 : decode cX11_goOn 0 = .ok (.iconst 0, 1) := by decide +kernel
theorem dX11_goOn_1 : decode cX11_goOn 1 = .ok (.istore_n 1, 1) := by decide +kernel
theorem dX11_goOn_2 : decode cX11_goOn 2 = .ok (.aload_n 0, 1) := by decide +kernel
theorem dX11_goOn_3 : decode cX11_goOn 3 = .ok (.iload_n 1, 1) := by decide +kernel
theorem dX11_goOn_4 : decode cX11_goOn 4 = .ok (.invokevirtual 335, 3) := by decide +kernel
theorem dX11_goOn_7 : decode cX11_goOn 7 = .ok (.istore_n 2, 1) := by decide +kernel
theorem dX11_goOn_8 : decode cX11_goOn 8 = .ok (.iload_n 2, 1) := by decide +kernel
theorem dX11_goOn_9 : decode cX11_goOn 9 = .ok (.ifCond .ge 4, 3) := by decide +kernel
theorem dX11_goOn_12 : decode cX11_goOn 12 = .ok (.return_, 1) := by decide +kernel
theorem dX11_goOn_13 : decode cX11_goOn 13 = .ok (.aload_n 0, 1) := by decide +kernel
theorem dX11_goOn_14 : decode cX11_goOn 14 = .ok (.iload_n 2, 1) := by decide +kernel
theorem dX11_goOn_15 : decode cX11_goOn 15 = .ok (.invokevirtual 338, 3) := by decide +kernel
theorem dX11_goOn_18 : decode cX11_goOn 18 = .ok (.ifCond .eq 7, 3) := by decide +kernel
theorem dX11_goOn_21 : decode cX11_goOn 21 = .ok (.iconst 0, 1) := by decide +kernel
theorem dX11_goOn_22 : decode cX11_goOn 22 = .ok (.goto 6, 3) := by decide +kernel
theorem dX11_goOn_25 : decode cX11_goOn 25 = .ok (.iload_n 1, 1) := by decide +kernel
theorem dX11_goOn_26 : decode cX11_goOn 26 = .ok (.iconst 1, 1) := by decide +kernel
theorem dX11_goOn_27 : decode cX11_goOn 27 = .ok (.iadd, 1) := by decide +kernel
theorem dX11_goOn_28 : decode cX11_goOn 28 = .ok (.istore_n 1, 1) := by decide +kernel
theorem dX11_goOn_29 : decode cX11_goOn 29 = .ok (.goto (-27), 3) := by decide +kernel
set_option maxRecDepth 20000 in
theorem ggX11_begins_X11_isHand : GoodIn wsX11_begins wsX11_isHand := goodIn_r _ [7, 8, 118, 119, 120, 121, 122, 123, 124, 125, 126, 127, 128, 129, 130, 131, 132, 133, 134, 135, 136, 137, 138, 139, 140, 141, 142, 143, 144, 145, 146, 147, 148, 149, 150, 151, 152, 153, 154, 155, 156, 157, 158, 159, 160, 161, 162, 163] (by decide +kernel) (by decide +kernel)
set_option maxRecDepth 20000 in
theorem gX11_begins_X11_isHand : GoodIn wsX11_begins (wsV RX11 341 RX11 yX11_isHand wsX11_isHand) := goodIn_app (goodIn_of _ (by decide +kernel)) ggX11_begins_X11_isHand
set_option maxRecDepth 20000 in
theorem ggX11_begins_X11_of : GoodIn wsX11_begins wsX11_of := goodIn_r _ [12, 13, 14, 118, 119, 120, 121, 122, 123, 124, 125, 126, 127, 128, 129, 130, 131, 132, 133, 134, 135, 136, 137, 138, 139, 140, 141, 142, 143, 144, 145, 146, 147, 148, 149, 150, 151, 152, 153, 154, 155, 156, 157, 158, 159, 160, 161, 162, 163] (by decide +kernel) (by decide +kernel)
set_option maxRecDepth 20000 in
theorem gX11_begins_X11_of : GoodIn wsX11_begins (wsV RX11 234 RX11 yX11_of wsX11_of) := goodIn_app (goodIn_of _ (by decide +kernel)) ggX11_begins_X11_of
set_option maxRecDepth 20000 in
theorem ggX11_begins_X11_lay : GoodIn wsX11_begins wsX11_lay := goodIn_r _ [18, 13, 14, 118, 119, 120, 121, 122, 123, 124, 125, 126, 127, 128, 129, 130, 131, 132, 133, 134, 135, 136, 137, 138, 139, 140, 141, 142, 143, 144, 145, 146, 147, 148, 149, 150, 151, 152, 153, 154, 155, 156, 157, 158, 159, 160, 161, 162, 163] (by decide +kernel) (by decide +kernel)
set_option maxRecDepth 20000 in
theorem gX11_begins_X11_lay : GoodIn wsX11_begins (wsV RX11 250 RX11 yX11_lay wsX11_lay) := goodIn_app (goodIn_of _ (by decide +kernel)) ggX11_begins_X11_lay
set_option maxRecDepth 20000 in
theorem ggX11_begins_X11_does : GoodIn wsX11_begins wsX11_does := goodIn_r _ [22, 9, 10, 11, 6, 12, 13, 14, 23, 24, 25, 26, 27, 28, 29, 30, 31, 32, 33, 34, 35, 15, 16, 17, 18, 36, 37, 38, 39, 2, 40, 41, 42, 43, 44, 45, 46, 47, 48, 49, 50, 51, 52, 53, 54, 55, 56, 57, 58, 59, 60, 61, 62, 63, 64, 65, 66, 67, 68, 69, 70, 71, 72, 73, 74, 118, 119, 120, 121, 122, 123, 124, 125, 126, 127, 128, 129, 130, 131, 132, 133, 134, 135, 136, 137, 138, 139, 140, 141, 142, 143, 144, 145, 146, 147, 148, 149, 150, 151, 152, 153, 154, 155, 156, 157, 158, 159, 160, 161, 162, 163] (by decide +kernel) (by decide +kernel)
set_option maxRecDepth 20000 in
theorem gX11_begins_X11_does : GoodIn wsX11_begins (wsV RX11 323 RX11 yX11_does wsX11_does) := goodIn_app (goodIn_of _ (by decide +kernel)) ggX11_begins_X11_does
set_option maxRecDepth 20000 in
theorem ggX11_begins_X11_isRing : GoodIn wsX11_begins wsX11_isRing := goodIn_r _ [78, 8, 79, 80, 6, 81, 82, 83, 84, 85, 9, 10, 11, 12, 13, 14, 28, 29, 30, 31, 32, 33, 34, 35, 47, 48, 49, 50, 118, 119, 120, 121, 122, 123, 124, 125, 126, 127, 128, 129, 130, 131, 132, 133, 134, 135, 136, 137, 138, 139, 140, 141, 142, 143, 144, 145, 146, 147, 148, 149, 150, 151, 152, 153, 154, 155, 156, 157, 158, 159, 160, 161, 162, 163] (by decide +kernel) (by decide +kernel)
set_option maxRecDepth 20000 in
theorem gX11_begins_X11_isRing : GoodIn wsX11_begins (wsV RX11 326 RX11 yX11_isRing wsX11_isRing) := goodIn_app (goodIn_of _ (by decide +kernel)) ggX11_begins_X11_isRing
set_option maxRecDepth 20000 in
theorem ggX11_begins_X11_dies : GoodIn wsX11_begins wsX11_dies := goodIn_r _ [89, 90, 91, 92, 6, 93, 14, 55, 57, 56, 58, 9, 10, 11, 12, 13, 28, 29, 30, 31, 32, 33, 34, 35, 15, 16, 17, 18, 94, 95, 96, 97, 63, 64, 65, 66, 67, 68, 69, 70, 98, 99, 100, 101, 118, 119, 120, 121, 122, 123, 124, 125, 126, 127, 128, 129, 130, 131, 132, 133, 134, 135, 136, 137, 138, 139, 140, 141, 142, 143, 144, 145, 146, 147, 148, 149, 150, 151, 152, 153, 154, 155, 156, 157, 158, 159, 160, 161, 162, 163] (by decide +kernel) (by decide +kernel)
set_option maxRecDepth 20000 in
theorem gX11_begins_X11_dies : GoodIn wsX11_begins (wsV RX11 329 RX11 yX11_dies wsX11_dies) := goodIn_app (goodIn_of _ (by decide +kernel)) ggX11_begins_X11_dies
set_option maxRecDepth 20000 in
theorem ggX11_begins_X11_goOn : GoodIn wsX11_begins wsX11_goOn := goodIn_r _ [105, 106, 107, 108, 6, 109, 8, 9, 10, 11, 12, 13, 14, 110, 111, 112, 113, 40, 41, 1, 2, 19, 20, 21, 22, 23, 24, 25, 26, 27, 28, 29, 30, 31, 32, 33, 34, 35, 15, 16, 17, 18, 36, 37, 38, 39, 42, 43, 44, 45, 46, 47, 48, 49, 50, 51, 52, 53, 54, 55, 56, 57, 58, 59, 60, 61, 62, 63, 64, 65, 66, 67, 68, 69, 70, 71, 72, 73, 74, 75, 76, 77, 78, 79, 80, 81, 82, 83, 84, 85, 86, 87, 88, 89, 90, 91, 92, 93, 94, 95, 96, 97, 98, 99, 100, 101, 114, 115, 116, 117, 118, 119, 120, 121, 122, 123, 124, 125, 126, 127, 128, 129, 130, 131, 132, 133, 134, 135, 136, 137, 138, 139, 140, 141, 142, 143, 144, 145, 146, 147, 148, 149, 150, 151, 152, 153, 154, 155, 156, 157, 158, 159, 160, 161, 162, 163] (by decide +kernel) (by decide +kernel)
set_option maxRecDepth 20000 in
theorem gX11_begins_X11_goOn : GoodIn wsX11_begins (wsV RX11 344 RX11 yX11_goOn wsX11_goOn) := goodIn_app (goodIn_of _ (by decide +kernel)) ggX11_begins_X11_goOn
set_option maxRecDepth 20000 in
theorem ggX11_begins_X11_waitsBy : GoodIn wsX11_begins wsX11_waitsBy := goodIn_r _ [117, 40, 41, 15, 16, 17, 6, 18, 13, 14, 9, 10, 11, 12, 118, 119, 120, 121, 122, 123, 124, 125, 126, 127, 128, 129, 130, 131, 132, 133, 134, 135, 136, 137, 138, 139, 140, 141, 142, 143, 144, 145, 146, 147, 148, 149, 150, 151, 152, 153, 154, 155, 156, 157, 158, 159, 160, 161, 162, 163] (by decide +kernel) (by decide +kernel)
set_option maxRecDepth 20000 in
theorem gX11_begins_X11_waitsBy : GoodIn wsX11_begins (wsV RX11 332 RX11 yX11_waitsBy wsX11_waitsBy) := goodIn_app (goodIn_of _ (by decide +kernel)) ggX11_begins_X11_waitsBy
theorem dX11_begins_0 : decode cX11_begins 0 = .ok (.aload_n 0, 1) := by decide +kernel
theorem dX11_begins_1 : decode cX11_begins 1 = .ok (.iload_n 1, 1) := by decide +kernel
theorem dX11_begins_2 : decode cX11_begins 2 = .ok (.invokevirtual 341, 3) := by decide +kernel
theorem dX11_begins_5 : decode cX11_begins 5 = .ok (.ifCond .eq 16, 3) := by decide +kernel
theorem dX11_begins_8 : decode cX11_begins 8 = .ok (.aload_n 0, 1) := by decide +kernel
theorem dX11_begins_9 : decode cX11_begins 9 = .ok (.sipush 170, 3) := by decide +kernel
theorem dX11_begins_12 : decode cX11_begins 12 = .ok (.iload_n 1, 1) := by decide +kernel
theorem dX11_begins_13 : decode cX11_begins 13 = .ok (.iadd, 1) := by decide +kernel
theorem dX11_begins_14 : decode cX11_begins 14 = .ok (.invokevirtual 234, 3) := by decide +kernel
theorem dX11_begins_17 : decode cX11_begins 17 = .ok (.iconst 1, 1) := by decide +kernel
theorem dX11_begins_18 : decode cX11_begins 18 = .ok (.if_icmp .eq 5, 3) := by decide +kernel
theorem dX11_begins_21 : decode cX11_begins 21 = .ok (.iconst (-1), 1) := by decide +kernel
theorem dX11_begins_22 : decode cX11_begins 22 = .ok (.ireturn, 1) := by decide +kernel
theorem dX11_begins_23 : decode cX11_begins 23 = .ok (.aload_n 0, 1) := by decide +kernel
theorem dX11_begins_24 : decode cX11_begins 24 = .ok (.sipush 190, 3) := by decide +kernel
theorem dX11_begins_27 : decode cX11_begins 27 = .ok (.iload_n 1, 1) := by decide +kernel
theorem dX11_begins_28 : decode cX11_begins 28 = .ok (.iadd, 1) := by decide +kernel
theorem dX11_begins_29 : decode cX11_begins 29 = .ok (.iload_n 2, 1) := by decide +kernel
theorem dX11_begins_30 : decode cX11_begins 30 = .ok (.invokevirtual 250, 3) := by decide +kernel
theorem dX11_begins_33 : decode cX11_begins 33 = .ok (.aload_n 0, 1) := by decide +kernel
theorem dX11_begins_34 : decode cX11_begins 34 = .ok (.sipush 195, 3) := by decide +kernel
theorem dX11_begins_37 : decode cX11_begins 37 = .ok (.iload_n 1, 1) := by decide +kernel
theorem dX11_begins_38 : decode cX11_begins 38 = .ok (.iadd, 1) := by decide +kernel
theorem dX11_begins_39 : decode cX11_begins 39 = .ok (.iload_n 3, 1) := by decide +kernel
theorem dX11_begins_40 : decode cX11_begins 40 = .ok (.invokevirtual 250, 3) := by decide +kernel
theorem dX11_begins_43 : decode cX11_begins 43 = .ok (.aload_n 0, 1) := by decide +kernel
theorem dX11_begins_44 : decode cX11_begins 44 = .ok (.sipush 200, 3) := by decide +kernel
theorem dX11_begins_47 : decode cX11_begins 47 = .ok (.iload_n 1, 1) := by decide +kernel
theorem dX11_begins_48 : decode cX11_begins 48 = .ok (.iadd, 1) := by decide +kernel
theorem dX11_begins_49 : decode cX11_begins 49 = .ok (.iload 4, 2) := by decide +kernel
theorem dX11_begins_51 : decode cX11_begins 51 = .ok (.invokevirtual 250, 3) := by decide +kernel
theorem dX11_begins_54 : decode cX11_begins 54 = .ok (.aload_n 0, 1) := by decide +kernel
theorem dX11_begins_55 : decode cX11_begins 55 = .ok (.sipush 205, 3) := by decide +kernel
theorem dX11_begins_58 : decode cX11_begins 58 = .ok (.iload_n 1, 1) := by decide +kernel
theorem dX11_begins_59 : decode cX11_begins 59 = .ok (.iadd, 1) := by decide +kernel
theorem dX11_begins_60 : decode cX11_begins 60 = .ok (.iload 5, 2) := by decide +kernel
theorem dX11_begins_62 : decode cX11_begins 62 = .ok (.invokevirtual 250, 3) := by decide +kernel
theorem dX11_begins_65 : decode cX11_begins 65 = .ok (.aload_n 0, 1) := by decide +kernel
theorem dX11_begins_66 : decode cX11_begins 66 = .ok (.iload_n 1, 1) := by decide +kernel
theorem dX11_begins_67 : decode cX11_begins 67 = .ok (.invokevirtual 323, 3) := by decide +kernel
theorem dX11_begins_70 : decode cX11_begins 70 = .ok (.istore 6, 2) := by decide +kernel
theorem dX11_begins_72 : decode cX11_begins 72 = .ok (.iload 6, 2) := by decide +kernel
theorem dX11_begins_74 : decode cX11_begins 74 = .ok (.iconst (-1), 1) := by decide +kernel
theorem dX11_begins_75 : decode cX11_begins 75 = .ok (.if_icmp .ne 5, 3) := by decide +kernel
theorem dX11_begins_78 : decode cX11_begins 78 = .ok (.iconst (-1), 1) := by decide +kernel
theorem dX11_begins_79 : decode cX11_begins 79 = .ok (.ireturn, 1) := by decide +kernel
theorem dX11_begins_80 : decode cX11_begins 80 = .ok (.iload 6, 2) := by decide +kernel
theorem dX11_begins_82 : decode cX11_begins 82 = .ok (.bipush (-2), 2) := by decide +kernel
theorem dX11_begins_84 : decode cX11_begins 84 = .ok (.if_icmp .ne 42, 3) := by decide +kernel
theorem dX11_begins_87 : decode cX11_begins 87 = .ok (.aload_n 0, 1) := by decide +kernel
theorem dX11_begins_88 : decode cX11_begins 88 = .ok (.getfield 244, 3) := by decide +kernel
theorem dX11_begins_91 : decode cX11_begins 91 = .ok (.ifCond .ne 15, 3) := by decide +kernel
theorem dX11_begins_94 : decode cX11_begins 94 = .ok (.aload_n 0, 1) := by decide +kernel
theorem dX11_begins_95 : decode cX11_begins 95 = .ok (.aload_n 0, 1) := by decide +kernel
theorem dX11_begins_96 : decode cX11_begins 96 = .ok (.getfield 278, 3) := by decide +kernel
theorem dX11_begins_99 : decode cX11_begins 99 = .ok (.iload_n 1, 1) := by decide +kernel
theorem dX11_begins_100 : decode cX11_begins 100 = .ok (.invokevirtual 326, 3) := by decide +kernel
theorem dX11_begins_103 : decode cX11_begins 103 = .ok (.ifCond .eq 15, 3) := by decide +kernel
theorem dX11_begins_106 : decode cX11_begins 106 = .ok (.aload_n 0, 1) := by decide +kernel
theorem dX11_begins_107 : decode cX11_begins 107 = .ok (.iload_n 1, 1) := by decide +kernel
theorem dX11_begins_108 : decode cX11_begins 108 = .ok (.invokevirtual 329, 3) := by decide +kernel
theorem dX11_begins_111 : decode cX11_begins 111 = .ok (.aload_n 0, 1) := by decide +kernel
theorem dX11_begins_112 : decode cX11_begins 112 = .ok (.invokevirtual 344, 3) := by decide +kernel
theorem dX11_begins_115 : decode cX11_begins 115 = .ok (.bipush (-3), 2) := by decide +kernel
theorem dX11_begins_117 : decode cX11_begins 117 = .ok (.ireturn, 1) := by decide +kernel
theorem dX11_begins_118 : decode cX11_begins 118 = .ok (.aload_n 0, 1) := by decide +kernel
theorem dX11_begins_119 : decode cX11_begins 119 = .ok (.iload_n 1, 1) := by decide +kernel
theorem dX11_begins_120 : decode cX11_begins 120 = .ok (.invokevirtual 332, 3) := by decide +kernel
theorem dX11_begins_123 : decode cX11_begins 123 = .ok (.bipush (-2), 2) := by decide +kernel
theorem dX11_begins_125 : decode cX11_begins 125 = .ok (.ireturn, 1) := by decide +kernel
theorem dX11_begins_126 : decode cX11_begins 126 = .ok (.aload_n 0, 1) := by decide +kernel
theorem dX11_begins_127 : decode cX11_begins 127 = .ok (.sipush 220, 3) := by decide +kernel
theorem dX11_begins_130 : decode cX11_begins 130 = .ok (.iload_n 1, 1) := by decide +kernel
theorem dX11_begins_131 : decode cX11_begins 131 = .ok (.iadd, 1) := by decide +kernel
theorem dX11_begins_132 : decode cX11_begins 132 = .ok (.iload 6, 2) := by decide +kernel
theorem dX11_begins_134 : decode cX11_begins 134 = .ok (.invokevirtual 250, 3) := by decide +kernel
theorem dX11_begins_137 : decode cX11_begins 137 = .ok (.iload 6, 2) := by decide +kernel
theorem dX11_begins_139 : decode cX11_begins 139 = .ok (.ireturn, 1) := by decide +kernel
set_option maxRecDepth 20000 in
theorem ggX11_opens_X11_isHand : GoodIn wsX11_opens wsX11_isHand := goodIn_r _ [5, 6, 17, 18, 19, 20, 21, 22, 23, 24, 25, 26, 27, 28, 29, 30, 31, 32, 33, 34, 35, 36, 37, 38, 39, 40, 41, 42, 43, 44, 45, 46, 47, 48, 49, 50, 51, 52, 53, 54, 55, 56, 57, 58, 59, 60, 61, 62] (by decide +kernel) (by decide +kernel)
set_option maxRecDepth 20000 in
theorem gX11_opens_X11_isHand : GoodIn wsX11_opens (wsV RX11 341 RX11 yX11_isHand wsX11_isHand) := goodIn_app (goodIn_of _ (by decide +kernel)) ggX11_opens_X11_isHand
set_option maxRecDepth 20000 in
theorem ggX11_opens_X11_of : GoodIn wsX11_opens wsX11_of := goodIn_r _ [10, 11, 12, 17, 18, 19, 20, 21, 22, 23, 24, 25, 26, 27, 28, 29, 30, 31, 32, 33, 34, 35, 36, 37, 38, 39, 40, 41, 42, 43, 44, 45, 46, 47, 48, 49, 50, 51, 52, 53, 54, 55, 56, 57, 58, 59, 60, 61, 62] (by decide +kernel) (by decide +kernel)
set_option maxRecDepth 20000 in
theorem gX11_opens_X11_of : GoodIn wsX11_opens (wsV RX11 234 RX11 yX11_of wsX11_of) := goodIn_app (goodIn_of _ (by decide +kernel)) ggX11_opens_X11_of
set_option maxRecDepth 20000 in
theorem ggX11_opens_X11_lay : GoodIn wsX11_opens wsX11_lay := goodIn_r _ [16, 11, 12, 17, 18, 19, 20, 21, 22, 23, 24, 25, 26, 27, 28, 29, 30, 31, 32, 33, 34, 35, 36, 37, 38, 39, 40, 41, 42, 43, 44, 45, 46, 47, 48, 49, 50, 51, 52, 53, 54, 55, 56, 57, 58, 59, 60, 61, 62] (by decide +kernel) (by decide +kernel)
set_option maxRecDepth 20000 in
theorem gX11_opens_X11_lay : GoodIn wsX11_opens (wsV RX11 250 RX11 yX11_lay wsX11_lay) := goodIn_app (goodIn_of _ (by decide +kernel)) ggX11_opens_X11_lay
theorem dX11_opens_0 : decode cX11_opens 0 = .ok (.aload_n 0, 1) := by decide +kernel
theorem dX11_opens_1 : decode cX11_opens 1 = .ok (.iload_n 1, 1) := by decide +kernel
theorem dX11_opens_2 : decode cX11_opens 2 = .ok (.invokevirtual 341, 3) := by decide +kernel
theorem dX11_opens_5 : decode cX11_opens 5 = .ok (.ifCond .eq 15, 3) := by decide +kernel
theorem dX11_opens_8 : decode cX11_opens 8 = .ok (.aload_n 0, 1) := by decide +kernel
theorem dX11_opens_9 : decode cX11_opens 9 = .ok (.sipush 170, 3) := by decide +kernel
theorem dX11_opens_12 : decode cX11_opens 12 = .ok (.iload_n 1, 1) := by decide +kernel
theorem dX11_opens_13 : decode cX11_opens 13 = .ok (.iadd, 1) := by decide +kernel
theorem dX11_opens_14 : decode cX11_opens 14 = .ok (.invokevirtual 234, 3) := by decide +kernel
theorem dX11_opens_17 : decode cX11_opens 17 = .ok (.ifCond .eq 5, 3) := by decide +kernel
theorem dX11_opens_20 : decode cX11_opens 20 = .ok (.iconst (-1), 1) := by decide +kernel
theorem dX11_opens_21 : decode cX11_opens 21 = .ok (.ireturn, 1) := by decide +kernel
theorem dX11_opens_22 : decode cX11_opens 22 = .ok (.aload_n 0, 1) := by decide +kernel
theorem dX11_opens_23 : decode cX11_opens 23 = .ok (.sipush 170, 3) := by decide +kernel
theorem dX11_opens_26 : decode cX11_opens 26 = .ok (.iload_n 1, 1) := by decide +kernel
theorem dX11_opens_27 : decode cX11_opens 27 = .ok (.iadd, 1) := by decide +kernel
theorem dX11_opens_28 : decode cX11_opens 28 = .ok (.iconst 1, 1) := by decide +kernel
theorem dX11_opens_29 : decode cX11_opens 29 = .ok (.invokevirtual 250, 3) := by decide +kernel
theorem dX11_opens_32 : decode cX11_opens 32 = .ok (.aload_n 0, 1) := by decide +kernel
theorem dX11_opens_33 : decode cX11_opens 33 = .ok (.sipush 180, 3) := by decide +kernel
theorem dX11_opens_36 : decode cX11_opens 36 = .ok (.iload_n 1, 1) := by decide +kernel
theorem dX11_opens_37 : decode cX11_opens 37 = .ok (.iadd, 1) := by decide +kernel
theorem dX11_opens_38 : decode cX11_opens 38 = .ok (.aload_n 0, 1) := by decide +kernel
theorem dX11_opens_39 : decode cX11_opens 39 = .ok (.sipush 227, 3) := by decide +kernel
theorem dX11_opens_42 : decode cX11_opens 42 = .ok (.invokevirtual 234, 3) := by decide +kernel
theorem dX11_opens_45 : decode cX11_opens 45 = .ok (.invokevirtual 250, 3) := by decide +kernel
theorem dX11_opens_48 : decode cX11_opens 48 = .ok (.aload_n 0, 1) := by decide +kernel
theorem dX11_opens_49 : decode cX11_opens 49 = .ok (.sipush 220, 3) := by decide +kernel
theorem dX11_opens_52 : decode cX11_opens 52 = .ok (.iload_n 1, 1) := by decide +kernel
theorem dX11_opens_53 : decode cX11_opens 53 = .ok (.iadd, 1) := by decide +kernel
theorem dX11_opens_54 : decode cX11_opens 54 = .ok (.iconst 0, 1) := by decide +kernel
theorem dX11_opens_55 : decode cX11_opens 55 = .ok (.invokevirtual 250, 3) := by decide +kernel
theorem dX11_opens_58 : decode cX11_opens 58 = .ok (.iconst 0, 1) := by decide +kernel
theorem dX11_opens_59 : decode cX11_opens 59 = .ok (.ireturn, 1) := by decide +kernel
set_option maxRecDepth 20000 in
theorem ggX11_endsNow_X11_isHand : GoodIn wsX11_endsNow wsX11_isHand := goodIn_r _ [5, 6, 118, 119, 120, 121, 122, 123, 124, 125, 126, 127, 128, 129, 130, 131, 132, 133, 134, 135, 136, 137, 138, 139, 140, 141, 142, 143, 144, 145, 146, 147, 148, 149, 150, 151, 152, 153, 154, 155, 156, 157, 158, 159, 160, 161, 162, 163] (by decide +kernel) (by decide +kernel)
set_option maxRecDepth 20000 in
theorem gX11_endsNow_X11_isHand : GoodIn wsX11_endsNow (wsV RX11 341 RX11 yX11_isHand wsX11_isHand) := goodIn_app (goodIn_of _ (by decide +kernel)) ggX11_endsNow_X11_isHand
set_option maxRecDepth 20000 in
theorem ggX11_endsNow_X11_of : GoodIn wsX11_endsNow wsX11_of := goodIn_r _ [10, 11, 12, 118, 119, 120, 121, 122, 123, 124, 125, 126, 127, 128, 129, 130, 131, 132, 133, 134, 135, 136, 137, 138, 139, 140, 141, 142, 143, 144, 145, 146, 147, 148, 149, 150, 151, 152, 153, 154, 155, 156, 157, 158, 159, 160, 161, 162, 163] (by decide +kernel) (by decide +kernel)
set_option maxRecDepth 20000 in
theorem gX11_endsNow_X11_of : GoodIn wsX11_endsNow (wsV RX11 234 RX11 yX11_of wsX11_of) := goodIn_app (goodIn_of _ (by decide +kernel)) ggX11_endsNow_X11_of
set_option maxRecDepth 20000 in
theorem ggX11_endsNow_X11_many : GoodIn wsX11_endsNow wsX11_many := goodIn_r _ [16, 7, 8, 9, 4, 10, 11, 12, 118, 119, 120, 121, 122, 123, 124, 125, 126, 127, 128, 129, 130, 131, 132, 133, 134, 135, 136, 137, 138, 139, 140, 141, 142, 143, 144, 145, 146, 147, 148, 149, 150, 151, 152, 153, 154, 155, 156, 157, 158, 159, 160, 161, 162, 163] (by decide +kernel) (by decide +kernel)
set_option maxRecDepth 20000 in
theorem gX11_endsNow_X11_many : GoodIn wsX11_endsNow (wsV RX11 267 RX11 yX11_many wsX11_many) := goodIn_app (goodIn_of _ (by decide +kernel)) ggX11_endsNow_X11_many
set_option maxRecDepth 20000 in
theorem ggX11_endsNow_X11_vanishes : GoodIn wsX11_endsNow wsX11_vanishes := goodIn_r _ [20, 7, 8, 9, 4, 10, 11, 12, 21, 22, 23, 24, 25, 26, 27, 28, 13, 14, 15, 16, 29, 30, 31, 32, 118, 119, 120, 121, 122, 123, 124, 125, 126, 127, 128, 129, 130, 131, 132, 133, 134, 135, 136, 137, 138, 139, 140, 141, 142, 143, 144, 145, 146, 147, 148, 149, 150, 151, 152, 153, 154, 155, 156, 157, 158, 159, 160, 161, 162, 163] (by decide +kernel) (by decide +kernel)
set_option maxRecDepth 20000 in
theorem gX11_endsNow_X11_vanishes : GoodIn wsX11_endsNow (wsV RX11 313 RX11 yX11_vanishes wsX11_vanishes) := goodIn_app (goodIn_of _ (by decide +kernel)) ggX11_endsNow_X11_vanishes
set_option maxRecDepth 20000 in
theorem ggX11_endsNow_X11_releases : GoodIn wsX11_endsNow wsX11_releases := goodIn_r _ [36, 13, 14, 15, 4, 16, 7, 8, 9, 10, 11, 12, 21, 22, 23, 24, 118, 119, 120, 121, 122, 123, 124, 125, 126, 127, 128, 129, 130, 131, 132, 133, 134, 135, 136, 137, 138, 139, 140, 141, 142, 143, 144, 145, 146, 147, 148, 149, 150, 151, 152, 153, 154, 155, 156, 157, 158, 159, 160, 161, 162, 163] (by decide +kernel) (by decide +kernel)
set_option maxRecDepth 20000 in
theorem gX11_endsNow_X11_releases : GoodIn wsX11_endsNow (wsV RX11 316 RX11 yX11_releases wsX11_releases) := goodIn_app (goodIn_of _ (by decide +kernel)) ggX11_endsNow_X11_releases
set_option maxRecDepth 20000 in
theorem ggX11_endsNow_X11_lay : GoodIn wsX11_endsNow wsX11_lay := goodIn_r _ [24, 11, 12, 118, 119, 120, 121, 122, 123, 124, 125, 126, 127, 128, 129, 130, 131, 132, 133, 134, 135, 136, 137, 138, 139, 140, 141, 142, 143, 144, 145, 146, 147, 148, 149, 150, 151, 152, 153, 154, 155, 156, 157, 158, 159, 160, 161, 162, 163] (by decide +kernel) (by decide +kernel)
set_option maxRecDepth 20000 in
theorem gX11_endsNow_X11_lay : GoodIn wsX11_endsNow (wsV RX11 250 RX11 yX11_lay wsX11_lay) := goodIn_app (goodIn_of _ (by decide +kernel)) ggX11_endsNow_X11_lay
set_option maxRecDepth 20000 in
theorem ggX11_endsNow_X11_goOn : GoodIn wsX11_endsNow wsX11_goOn := goodIn_r _ [40, 41, 42, 43, 4, 44, 6, 7, 8, 9, 10, 11, 12, 45, 46, 47, 48, 49, 50, 51, 52, 53, 54, 55, 56, 57, 58, 59, 60, 61, 62, 63, 64, 65, 13, 14, 15, 16, 21, 22, 23, 24, 66, 67, 68, 69, 70, 71, 72, 73, 74, 75, 76, 77, 78, 79, 80, 81, 82, 83, 84, 85, 86, 87, 88, 89, 90, 25, 26, 27, 28, 29, 30, 31, 32, 91, 92, 93, 94, 95, 96, 97, 98, 99, 100, 101, 102, 103, 104, 105, 106, 107, 108, 109, 110, 111, 112, 113, 17, 18, 19, 20, 33, 34, 35, 36, 114, 115, 116, 117, 118, 119, 120, 121, 122, 123, 124, 125, 126, 127, 128, 129, 130, 131, 132, 133, 134, 135, 136, 137, 138, 139, 140, 141, 142, 143, 144, 145, 146, 147, 148, 149, 150, 151, 152, 153, 154, 155, 156, 157, 158, 159, 160, 161, 162, 163] (by decide +kernel) (by decide +kernel)
set_option maxRecDepth 20000 in
theorem gX11_endsNow_X11_goOn : GoodIn wsX11_endsNow (wsV RX11 344 RX11 yX11_goOn wsX11_goOn) := goodIn_app (goodIn_of _ (by decide +kernel)) ggX11_endsNow_X11_goOn
theorem dX11_endsNow_0 : decode cX11_endsNow 0 = .ok (.aload_n 0, 1) := by decide +kernel
theorem dX11_endsNow_1 : decode cX11_endsNow 1 = .ok (.iload_n 1, 1) := by decide +kernel
theorem dX11_endsNow_2 : decode cX11_endsNow 2 = .ok (.invokevirtual 341, 3) := by decide +kernel
theorem dX11_endsNow_5 : decode cX11_endsNow 5 = .ok (.ifCond .eq 16, 3) := by decide +kernel
theorem dX11_endsNow_8 : decode cX11_endsNow 8 = .ok (.aload_n 0, 1) := by decide +kernel
theorem dX11_endsNow_9 : decode cX11_endsNow 9 = .ok (.sipush 170, 3) := by decide +kernel
theorem dX11_endsNow_12 : decode cX11_endsNow 12 = .ok (.iload_n 1, 1) := by decide +kernel
theorem dX11_endsNow_13 : decode cX11_endsNow 13 = .ok (.iadd, 1) := by decide +kernel
theorem dX11_endsNow_14 : decode cX11_endsNow 14 = .ok (.invokevirtual 234, 3) := by decide +kernel
theorem dX11_endsNow_17 : decode cX11_endsNow 17 = .ok (.iconst 1, 1) := by decide +kernel
theorem dX11_endsNow_18 : decode cX11_endsNow 18 = .ok (.if_icmp .eq 5, 3) := by decide +kernel
theorem dX11_endsNow_21 : decode cX11_endsNow 21 = .ok (.iconst (-1), 1) := by decide +kernel
theorem dX11_endsNow_22 : decode cX11_endsNow 22 = .ok (.ireturn, 1) := by decide +kernel
theorem dX11_endsNow_23 : decode cX11_endsNow 23 = .ok (.iconst 0, 1) := by decide +kernel
theorem dX11_endsNow_24 : decode cX11_endsNow 24 = .ok (.istore_n 2, 1) := by decide +kernel
theorem dX11_endsNow_25 : decode cX11_endsNow 25 = .ok (.iload_n 2, 1) := by decide +kernel
theorem dX11_endsNow_26 : decode cX11_endsNow 26 = .ok (.aload_n 0, 1) := by decide +kernel
theorem dX11_endsNow_27 : decode cX11_endsNow 27 = .ok (.invokevirtual 267, 3) := by decide +kernel
theorem dX11_endsNow_30 : decode cX11_endsNow 30 = .ok (.if_icmp .ge 30, 3) := by decide +kernel
theorem dX11_endsNow_33 : decode cX11_endsNow 33 = .ok (.aload_n 0, 1) := by decide +kernel
theorem dX11_endsNow_34 : decode cX11_endsNow 34 = .ok (.bipush 49, 2) := by decide +kernel
theorem dX11_endsNow_36 : decode cX11_endsNow 36 = .ok (.iload_n 2, 1) := by decide +kernel
theorem dX11_endsNow_37 : decode cX11_endsNow 37 = .ok (.iadd, 1) := by decide +kernel
theorem dX11_endsNow_38 : decode cX11_endsNow 38 = .ok (.invokevirtual 234, 3) := by decide +kernel
theorem dX11_endsNow_41 : decode cX11_endsNow 41 = .ok (.iload_n 1, 1) := by decide +kernel
theorem dX11_endsNow_42 : decode cX11_endsNow 42 = .ok (.if_icmp .ne 12, 3) := by decide +kernel
theorem dX11_endsNow_45 : decode cX11_endsNow 45 = .ok (.aload_n 0, 1) := by decide +kernel
theorem dX11_endsNow_46 : decode cX11_endsNow 46 = .ok (.iload_n 2, 1) := by decide +kernel
theorem dX11_endsNow_47 : decode cX11_endsNow 47 = .ok (.iload_n 1, 1) := by decide +kernel
theorem dX11_endsNow_48 : decode cX11_endsNow 48 = .ok (.invokevirtual 313, 3) := by decide +kernel
theorem dX11_endsNow_51 : decode cX11_endsNow 51 = .ok (.goto (-26), 3) := by decide +kernel
theorem dX11_endsNow_54 : decode cX11_endsNow 54 = .ok (.iinc 2 1, 3) := by decide +kernel
theorem dX11_endsNow_57 : decode cX11_endsNow 57 = .ok (.goto (-32), 3) := by decide +kernel
theorem dX11_endsNow_60 : decode cX11_endsNow 60 = .ok (.aload_n 0, 1) := by decide +kernel
theorem dX11_endsNow_61 : decode cX11_endsNow 61 = .ok (.iload_n 1, 1) := by decide +kernel
theorem dX11_endsNow_62 : decode cX11_endsNow 62 = .ok (.invokevirtual 316, 3) := by decide +kernel
theorem dX11_endsNow_65 : decode cX11_endsNow 65 = .ok (.aload_n 0, 1) := by decide +kernel
theorem dX11_endsNow_66 : decode cX11_endsNow 66 = .ok (.sipush 220, 3) := by decide +kernel
theorem dX11_endsNow_69 : decode cX11_endsNow 69 = .ok (.iload_n 1, 1) := by decide +kernel
theorem dX11_endsNow_70 : decode cX11_endsNow 70 = .ok (.iadd, 1) := by decide +kernel
theorem dX11_endsNow_71 : decode cX11_endsNow 71 = .ok (.iconst 0, 1) := by decide +kernel
theorem dX11_endsNow_72 : decode cX11_endsNow 72 = .ok (.invokevirtual 250, 3) := by decide +kernel
theorem dX11_endsNow_75 : decode cX11_endsNow 75 = .ok (.aload_n 0, 1) := by decide +kernel
theorem dX11_endsNow_76 : decode cX11_endsNow 76 = .ok (.invokevirtual 344, 3) := by decide +kernel
theorem dX11_endsNow_79 : decode cX11_endsNow 79 = .ok (.iconst 0, 1) := by decide +kernel
theorem dX11_endsNow_80 : decode cX11_endsNow 80 = .ok (.ireturn, 1) := by decide +kernel
set_option maxRecDepth 20000 in
theorem ggX11_quitsNow_X11_isHand : GoodIn wsX11_quitsNow wsX11_isHand := goodIn_r _ [5, 6, 118, 119, 120, 121, 122, 123, 124, 125, 126, 127, 128, 129, 130, 131, 132, 133, 134, 135, 136, 137, 138, 139, 140, 141, 142, 143, 144, 145, 146, 147, 148, 149, 150, 151, 152, 153, 154, 155, 156, 157, 158, 159, 160, 161, 162, 163] (by decide +kernel) (by decide +kernel)
set_option maxRecDepth 20000 in
theorem gX11_quitsNow_X11_isHand : GoodIn wsX11_quitsNow (wsV RX11 341 RX11 yX11_isHand wsX11_isHand) := goodIn_app (goodIn_of _ (by decide +kernel)) ggX11_quitsNow_X11_isHand
set_option maxRecDepth 20000 in
theorem ggX11_quitsNow_X11_of : GoodIn wsX11_quitsNow wsX11_of := goodIn_r _ [10, 11, 12, 118, 119, 120, 121, 122, 123, 124, 125, 126, 127, 128, 129, 130, 131, 132, 133, 134, 135, 136, 137, 138, 139, 140, 141, 142, 143, 144, 145, 146, 147, 148, 149, 150, 151, 152, 153, 154, 155, 156, 157, 158, 159, 160, 161, 162, 163] (by decide +kernel) (by decide +kernel)
set_option maxRecDepth 20000 in
theorem gX11_quitsNow_X11_of : GoodIn wsX11_quitsNow (wsV RX11 234 RX11 yX11_of wsX11_of) := goodIn_app (goodIn_of _ (by decide +kernel)) ggX11_quitsNow_X11_of
set_option maxRecDepth 20000 in
theorem ggX11_quitsNow_X11_undoes : GoodIn wsX11_quitsNow wsX11_undoes := goodIn_r _ [16, 12, 17, 18, 19, 20, 7, 8, 9, 4, 10, 11, 21, 22, 23, 24, 25, 26, 27, 28, 29, 30, 31, 32, 33, 34, 35, 36, 37, 38, 39, 40, 41, 42, 43, 44, 45, 46, 47, 48, 118, 119, 120, 121, 122, 123, 124, 125, 126, 127, 128, 129, 130, 131, 132, 133, 134, 135, 136, 137, 138, 139, 140, 141, 142, 143, 144, 145, 146, 147, 148, 149, 150, 151, 152, 153, 154, 155, 156, 157, 158, 159, 160, 161, 162, 163] (by decide +kernel) (by decide +kernel)
set_option maxRecDepth 20000 in
theorem gX11_quitsNow_X11_undoes : GoodIn wsX11_quitsNow (wsV RX11 320 RX11 yX11_undoes wsX11_undoes) := goodIn_app (goodIn_of _ (by decide +kernel)) ggX11_quitsNow_X11_undoes
set_option maxRecDepth 20000 in
theorem ggX11_quitsNow_X11_lay : GoodIn wsX11_quitsNow wsX11_lay := goodIn_r _ [32, 11, 12, 118, 119, 120, 121, 122, 123, 124, 125, 126, 127, 128, 129, 130, 131, 132, 133, 134, 135, 136, 137, 138, 139, 140, 141, 142, 143, 144, 145, 146, 147, 148, 149, 150, 151, 152, 153, 154, 155, 156, 157, 158, 159, 160, 161, 162, 163] (by decide +kernel) (by decide +kernel)
set_option maxRecDepth 20000 in
theorem gX11_quitsNow_X11_lay : GoodIn wsX11_quitsNow (wsV RX11 250 RX11 yX11_lay wsX11_lay) := goodIn_app (goodIn_of _ (by decide +kernel)) ggX11_quitsNow_X11_lay
set_option maxRecDepth 20000 in
theorem ggX11_quitsNow_X11_goOn : GoodIn wsX11_quitsNow wsX11_goOn := goodIn_r _ [52, 53, 54, 55, 4, 56, 6, 7, 8, 9, 10, 11, 12, 57, 58, 59, 60, 61, 62, 63, 64, 65, 66, 67, 68, 69, 70, 71, 72, 73, 21, 22, 23, 24, 25, 26, 27, 28, 29, 30, 31, 32, 74, 75, 76, 77, 78, 79, 80, 81, 82, 83, 84, 85, 86, 87, 88, 89, 90, 17, 19, 18, 20, 91, 92, 93, 94, 37, 38, 39, 40, 41, 42, 43, 44, 95, 96, 97, 98, 99, 100, 101, 102, 103, 104, 105, 106, 107, 108, 109, 110, 111, 112, 113, 13, 14, 15, 16, 33, 34, 35, 36, 45, 46, 47, 48, 114, 115, 116, 117, 118, 119, 120, 121, 122, 123, 124, 125, 126, 127, 128, 129, 130, 131, 132, 133, 134, 135, 136, 137, 138, 139, 140, 141, 142, 143, 144, 145, 146, 147, 148, 149, 150, 151, 152, 153, 154, 155, 156, 157, 158, 159, 160, 161, 162, 163] (by decide +kernel) (by decide +kernel)
set_option maxRecDepth 20000 in
theorem gX11_quitsNow_X11_goOn : GoodIn wsX11_quitsNow (wsV RX11 344 RX11 yX11_goOn wsX11_goOn) := goodIn_app (goodIn_of _ (by decide +kernel)) ggX11_quitsNow_X11_goOn
theorem dX11_quitsNow_0 : decode cX11_quitsNow 0 = .ok (.aload_n 0, 1) := by decide +kernel
theorem dX11_quitsNow_1 : decode cX11_quitsNow 1 = .ok (.iload_n 1, 1) := by decide +kernel
theorem dX11_quitsNow_2 : decode cX11_quitsNow 2 = .ok (.invokevirtual 341, 3) := by decide +kernel
theorem dX11_quitsNow_5 : decode cX11_quitsNow 5 = .ok (.ifCond .eq 15, 3) := by decide +kernel
theorem dX11_quitsNow_8 : decode cX11_quitsNow 8 = .ok (.aload_n 0, 1) := by decide +kernel
theorem dX11_quitsNow_9 : decode cX11_quitsNow 9 = .ok (.sipush 170, 3) := by decide +kernel
theorem dX11_quitsNow_12 : decode cX11_quitsNow 12 = .ok (.iload_n 1, 1) := by decide +kernel
theorem dX11_quitsNow_13 : decode cX11_quitsNow 13 = .ok (.iadd, 1) := by decide +kernel
theorem dX11_quitsNow_14 : decode cX11_quitsNow 14 = .ok (.invokevirtual 234, 3) := by decide +kernel
theorem dX11_quitsNow_17 : decode cX11_quitsNow 17 = .ok (.ifCond .ne 5, 3) := by decide +kernel
theorem dX11_quitsNow_20 : decode cX11_quitsNow 20 = .ok (.iconst (-1), 1) := by decide +kernel
theorem dX11_quitsNow_21 : decode cX11_quitsNow 21 = .ok (.ireturn, 1) := by decide +kernel
theorem dX11_quitsNow_22 : decode cX11_quitsNow 22 = .ok (.aload_n 0, 1) := by decide +kernel
theorem dX11_quitsNow_23 : decode cX11_quitsNow 23 = .ok (.iload_n 1, 1) := by decide +kernel
theorem dX11_quitsNow_24 : decode cX11_quitsNow 24 = .ok (.invokevirtual 320, 3) := by decide +kernel
theorem dX11_quitsNow_27 : decode cX11_quitsNow 27 = .ok (.aload_n 0, 1) := by decide +kernel
theorem dX11_quitsNow_28 : decode cX11_quitsNow 28 = .ok (.sipush 220, 3) := by decide +kernel
theorem dX11_quitsNow_31 : decode cX11_quitsNow 31 = .ok (.iload_n 1, 1) := by decide +kernel
theorem dX11_quitsNow_32 : decode cX11_quitsNow 32 = .ok (.iadd, 1) := by decide +kernel
theorem dX11_quitsNow_33 : decode cX11_quitsNow 33 = .ok (.iconst 0, 1) := by decide +kernel
theorem dX11_quitsNow_34 : decode cX11_quitsNow 34 = .ok (.invokevirtual 250, 3) := by decide +kernel
theorem dX11_quitsNow_37 : decode cX11_quitsNow 37 = .ok (.aload_n 0, 1) := by decide +kernel
theorem dX11_quitsNow_38 : decode cX11_quitsNow 38 = .ok (.invokevirtual 344, 3) := by decide +kernel
theorem dX11_quitsNow_41 : decode cX11_quitsNow 41 = .ok (.iconst 0, 1) := by decide +kernel
theorem dX11_quitsNow_42 : decode cX11_quitsNow 42 = .ok (.ireturn, 1) := by decide +kernel
set_option maxRecDepth 20000 in
theorem ggX11_stepDone_X11_opens : GoodIn wsX11_stepDone wsX11_opens := goodIn_r _ [10, 11, 12, 13, 9, 14, 15, 16, 17, 18, 19, 20, 21, 22, 23, 24, 25, 139, 140, 141, 142, 143, 144, 145, 146, 147, 148, 149, 150, 151, 152, 153, 154, 155, 156, 157, 158, 159, 160, 161, 162, 163, 164, 165, 166, 167, 168, 169, 170, 171, 172, 173, 174, 175, 176, 177, 178, 179, 180, 181, 182, 183, 184] (by decide +kernel) (by decide +kernel)
set_option maxRecDepth 20000 in
theorem gX11_stepDone_X11_opens : GoodIn wsX11_stepDone (wsV RX11 347 RX11 yX11_opens wsX11_opens) := goodIn_app (goodIn_of _ (by decide +kernel)) ggX11_stepDone_X11_opens
set_option maxRecDepth 20000 in
theorem ggX11_stepDone_X11_endsNow : GoodIn wsX11_stepDone wsX11_endsNow := goodIn_r _ [29, 11, 12, 13, 9, 14, 15, 16, 17, 18, 19, 20, 21, 30, 31, 32, 33, 34, 35, 36, 37, 22, 23, 24, 25, 38, 39, 40, 41, 42, 43, 44, 45, 46, 47, 48, 49, 50, 51, 52, 53, 54, 55, 56, 57, 58, 59, 60, 61, 62, 63, 64, 65, 66, 67, 68, 69, 70, 71, 72, 73, 74, 75, 76, 77, 78, 79, 80, 81, 82, 83, 84, 85, 86, 87, 88, 89, 90, 91, 92, 93, 94, 95, 96, 97, 98, 99, 100, 101, 102, 103, 104, 105, 106, 107, 108, 109, 110, 111, 112, 113, 114, 115, 116, 117, 118, 119, 120, 121, 122, 123, 124, 125, 126, 127, 128, 129, 130, 139, 140, 141, 142, 143, 144, 145, 146, 147, 148, 149, 150, 151, 152, 153, 154, 155, 156, 157, 158, 159, 160, 161, 162, 163, 164, 165, 166, 167, 168, 169, 170, 171, 172, 173, 174, 175, 176, 177, 178, 179, 180, 181, 182, 183, 184] (by decide +kernel) (by decide +kernel)
set_option maxRecDepth 20000 in
theorem gX11_stepDone_X11_endsNow : GoodIn wsX11_stepDone (wsV RX11 350 RX11 yX11_endsNow wsX11_endsNow) := goodIn_app (goodIn_of _ (by decide +kernel)) ggX11_stepDone_X11_endsNow
set_option maxRecDepth 20000 in
theorem ggX11_stepDone_X11_quitsNow : GoodIn wsX11_stepDone wsX11_quitsNow := goodIn_r _ [134, 11, 12, 13, 9, 14, 15, 16, 17, 18, 19, 20, 21, 123, 124, 125, 126, 96, 98, 97, 99, 75, 76, 77, 78, 30, 31, 32, 33, 22, 23, 24, 25, 34, 35, 36, 37, 38, 39, 40, 41, 42, 43, 44, 45, 46, 47, 48, 49, 50, 51, 52, 53, 54, 55, 56, 57, 58, 59, 60, 61, 62, 63, 64, 65, 66, 67, 68, 69, 70, 71, 72, 73, 74, 79, 80, 81, 82, 83, 84, 85, 86, 87, 88, 89, 90, 91, 92, 93, 94, 95, 100, 101, 102, 103, 104, 105, 106, 107, 108, 109, 110, 111, 112, 113, 114, 115, 116, 117, 118, 119, 120, 121, 122, 127, 128, 129, 130, 139, 140, 141, 142, 143, 144, 145, 146, 147, 148, 149, 150, 151, 152, 153, 154, 155, 156, 157, 158, 159, 160, 161, 162, 163, 164, 165, 166, 167, 168, 169, 170, 171, 172, 173, 174, 175, 176, 177, 178, 179, 180, 181, 182, 183, 184] (by decide +kernel) (by decide +kernel)
set_option maxRecDepth 20000 in
theorem gX11_stepDone_X11_quitsNow : GoodIn wsX11_stepDone (wsV RX11 353 RX11 yX11_quitsNow wsX11_quitsNow) := goodIn_app (goodIn_of _ (by decide +kernel)) ggX11_stepDone_X11_quitsNow
set_option maxRecDepth 20000 in
theorem ggX11_stepDone_X11_begins : GoodIn wsX11_stepDone wsX11_begins := goodIn_r _ [138, 64, 65, 11, 12, 13, 9, 14, 15, 16, 17, 18, 19, 20, 21, 22, 23, 24, 25, 66, 67, 68, 69, 70, 71, 72, 73, 74, 75, 76, 77, 78, 30, 31, 32, 33, 79, 80, 81, 82, 62, 63, 83, 84, 85, 86, 87, 88, 89, 90, 91, 92, 93, 94, 95, 96, 97, 98, 99, 100, 101, 102, 103, 38, 39, 40, 41, 42, 43, 44, 45, 104, 105, 106, 107, 108, 109, 110, 111, 112, 113, 114, 115, 116, 117, 118, 119, 120, 121, 122, 123, 124, 125, 126, 34, 35, 36, 37, 46, 47, 48, 49, 50, 51, 52, 53, 54, 55, 56, 57, 58, 59, 60, 61, 127, 128, 129, 130, 139, 140, 141, 142, 143, 144, 145, 146, 147, 148, 149, 150, 151, 152, 153, 154, 155, 156, 157, 158, 159, 160, 161, 162, 163, 164, 165, 166, 167, 168, 169, 170, 171, 172, 173, 174, 175, 176, 177, 178, 179, 180, 181, 182, 183, 184] (by decide +kernel) (by decide +kernel)
set_option maxRecDepth 20000 in
theorem gX11_stepDone_X11_begins : GoodIn wsX11_stepDone (wsV RX11 356 RX11 yX11_begins wsX11_begins) := goodIn_app (goodIn_of _ (by decide +kernel)) ggX11_stepDone_X11_begins
theorem dX11_stepDone_0 : decode cX11_stepDone 0 = .ok (.aload_n 0, 1) := by decide +kernel
theorem dX11_stepDone_1 : decode cX11_stepDone 1 = .ok (.getfield 32, 3) := by decide +kernel
theorem dX11_stepDone_4 : decode cX11_stepDone 4 = .ok (.iload_n 1, 1) := by decide +kernel
theorem dX11_stepDone_5 : decode cX11_stepDone 5 = .ok (.iaload, 1) := by decide +kernel
theorem dX11_stepDone_6 : decode cX11_stepDone 6 = .ok (.istore_n 2, 1) := by decide +kernel
theorem dX11_stepDone_7 : decode cX11_stepDone 7 = .ok (.aload_n 0, 1) := by decide +kernel
theorem dX11_stepDone_8 : decode cX11_stepDone 8 = .ok (.getfield 29, 3) := by decide +kernel
theorem dX11_stepDone_11 : decode cX11_stepDone 11 = .ok (.iload_n 1, 1) := by decide +kernel
theorem dX11_stepDone_12 : decode cX11_stepDone 12 = .ok (.iaload, 1) := by decide +kernel
theorem dX11_stepDone_13 : decode cX11_stepDone 13 = .ok (.lookupswitch 53 #[(2, 35), (9, 41), (10, 47)], 35) := by decide +kernel
theorem dX11_stepDone_48 : decode cX11_stepDone 48 = .ok (.aload_n 0, 1) := by decide +kernel
theorem dX11_stepDone_49 : decode cX11_stepDone 49 = .ok (.iload_n 2, 1) := by decide +kernel
theorem dX11_stepDone_50 : decode cX11_stepDone 50 = .ok (.invokevirtual 347, 3) := by decide +kernel
theorem dX11_stepDone_53 : decode cX11_stepDone 53 = .ok (.ireturn, 1) := by decide +kernel
theorem dX11_stepDone_54 : decode cX11_stepDone 54 = .ok (.aload_n 0, 1) := by decide +kernel
theorem dX11_stepDone_55 : decode cX11_stepDone 55 = .ok (.iload_n 2, 1) := by decide +kernel
theorem dX11_stepDone_56 : decode cX11_stepDone 56 = .ok (.invokevirtual 350, 3) := by decide +kernel
theorem dX11_stepDone_59 : decode cX11_stepDone 59 = .ok (.ireturn, 1) := by decide +kernel
theorem dX11_stepDone_60 : decode cX11_stepDone 60 = .ok (.aload_n 0, 1) := by decide +kernel
theorem dX11_stepDone_61 : decode cX11_stepDone 61 = .ok (.iload_n 2, 1) := by decide +kernel
theorem dX11_stepDone_62 : decode cX11_stepDone 62 = .ok (.invokevirtual 353, 3) := by decide +kernel
theorem dX11_stepDone_65 : decode cX11_stepDone 65 = .ok (.ireturn, 1) := by decide +kernel
theorem dX11_stepDone_66 : decode cX11_stepDone 66 = .ok (.aload_n 0, 1) := by decide +kernel
theorem dX11_stepDone_67 : decode cX11_stepDone 67 = .ok (.iload_n 2, 1) := by decide +kernel
theorem dX11_stepDone_68 : decode cX11_stepDone 68 = .ok (.aload_n 0, 1) := by decide +kernel
theorem dX11_stepDone_69 : decode cX11_stepDone 69 = .ok (.getfield 29, 3) := by decide +kernel
theorem dX11_stepDone_72 : decode cX11_stepDone 72 = .ok (.iload_n 1, 1) := by decide +kernel
theorem dX11_stepDone_73 : decode cX11_stepDone 73 = .ok (.iaload, 1) := by decide +kernel
theorem dX11_stepDone_74 : decode cX11_stepDone 74 = .ok (.aload_n 0, 1) := by decide +kernel
theorem dX11_stepDone_75 : decode cX11_stepDone 75 = .ok (.getfield 35, 3) := by decide +kernel
theorem dX11_stepDone_78 : decode cX11_stepDone 78 = .ok (.iload_n 1, 1) := by decide +kernel
theorem dX11_stepDone_79 : decode cX11_stepDone 79 = .ok (.iaload, 1) := by decide +kernel
theorem dX11_stepDone_80 : decode cX11_stepDone 80 = .ok (.aload_n 0, 1) := by decide +kernel
theorem dX11_stepDone_81 : decode cX11_stepDone 81 = .ok (.getfield 38, 3) := by decide +kernel
theorem dX11_stepDone_84 : decode cX11_stepDone 84 = .ok (.iload_n 1, 1) := by decide +kernel
theorem dX11_stepDone_85 : decode cX11_stepDone 85 = .ok (.iaload, 1) := by decide +kernel
theorem dX11_stepDone_86 : decode cX11_stepDone 86 = .ok (.aload_n 0, 1) := by decide +kernel
theorem dX11_stepDone_87 : decode cX11_stepDone 87 = .ok (.getfield 41, 3) := by decide +kernel
theorem dX11_stepDone_90 : decode cX11_stepDone 90 = .ok (.iload_n 1, 1) := by decide +kernel
theorem dX11_stepDone_91 : decode cX11_stepDone 91 = .ok (.iaload, 1) := by decide +kernel
theorem dX11_stepDone_92 : decode cX11_stepDone 92 = .ok (.invokevirtual 356, 3) := by decide +kernel
theorem dX11_stepDone_95 : decode cX11_stepDone 95 = .ok (.ireturn, 1) := by decide +kernel
set_option maxRecDepth 20000 in
theorem ggX11_doKept_X11_of : GoodIn wsX11_doKept wsX11_of := goodIn_r _ [7, 8, 9, 144, 145, 146, 147, 148, 149, 150, 151, 152, 153, 154, 155, 156, 157, 158, 159, 160, 161, 162, 163, 164, 165, 166, 167, 168, 169, 170, 171, 172, 173, 174, 175, 176, 177, 178, 179, 180, 181, 182, 183, 184, 185, 186, 187, 188, 189] (by decide +kernel) (by decide +kernel)
set_option maxRecDepth 20000 in
theorem gX11_doKept_X11_of : GoodIn wsX11_doKept (wsV RX11 234 RX11 yX11_of wsX11_of) := goodIn_app (goodIn_of _ (by decide +kernel)) ggX11_doKept_X11_of
set_option maxRecDepth 20000 in
theorem ggX11_doKept_X11_lay : GoodIn wsX11_doKept wsX11_lay := goodIn_r _ [13, 8, 9, 144, 145, 146, 147, 148, 149, 150, 151, 152, 153, 154, 155, 156, 157, 158, 159, 160, 161, 162, 163, 164, 165, 166, 167, 168, 169, 170, 171, 172, 173, 174, 175, 176, 177, 178, 179, 180, 181, 182, 183, 184, 185, 186, 187, 188, 189] (by decide +kernel) (by decide +kernel)
set_option maxRecDepth 20000 in
theorem gX11_doKept_X11_lay : GoodIn wsX11_doKept (wsV RX11 250 RX11 yX11_lay wsX11_lay) := goodIn_app (goodIn_of _ (by decide +kernel)) ggX11_doKept_X11_lay
set_option maxRecDepth 20000 in
theorem ggX11_doKept_X11_stepDone : GoodIn wsX11_doKept wsX11_stepDone := goodIn_r _ [17, 2, 18, 19, 20, 21, 22, 23, 24, 6, 25, 26, 27, 28, 29, 30, 3, 4, 5, 7, 8, 9, 10, 11, 12, 13, 31, 32, 33, 34, 35, 36, 37, 38, 39, 40, 41, 42, 43, 44, 45, 46, 47, 48, 49, 50, 51, 52, 53, 54, 55, 56, 57, 58, 59, 60, 61, 62, 63, 64, 65, 66, 67, 68, 69, 70, 71, 72, 73, 74, 75, 76, 77, 78, 79, 80, 81, 82, 83, 84, 85, 86, 87, 88, 89, 90, 91, 92, 93, 94, 95, 96, 97, 98, 99, 100, 101, 102, 103, 104, 105, 106, 107, 108, 109, 110, 111, 112, 113, 114, 115, 116, 117, 118, 119, 120, 121, 122, 123, 124, 125, 126, 127, 128, 129, 130, 131, 132, 133, 134, 135, 136, 137, 138, 139, 140, 141, 142, 143, 144, 145, 146, 147, 148, 149, 150, 151, 152, 153, 154, 155, 156, 157, 158, 159, 160, 161, 162, 163, 164, 165, 166, 167, 168, 169, 170, 171, 172, 173, 174, 175, 176, 177, 178, 179, 180, 181, 182, 183, 184, 185, 186, 187, 188, 189] (by decide +kernel) (by decide +kernel)
set_option maxRecDepth 20000 in
theorem gX11_doKept_X11_stepDone : GoodIn wsX11_doKept (wsV RX11 360 RX11 yX11_stepDone wsX11_stepDone) := goodIn_app (goodIn_of _ (by decide +kernel)) ggX11_doKept_X11_stepDone
theorem dX11_doKept_0 : decode cX11_doKept 0 = .ok (.iconst 0, 1) := by decide +kernel
theorem dX11_doKept_1 : decode cX11_doKept 1 = .ok (.istore_n 1, 1) := by decide +kernel
theorem dX11_doKept_2 : decode cX11_doKept 2 = .ok (.iload_n 1, 1) := by decide +kernel
theorem dX11_doKept_3 : decode cX11_doKept 3 = .ok (.aload_n 0, 1) := by decide +kernel
theorem dX11_doKept_4 : decode cX11_doKept 4 = .ok (.getfield 195, 3) := by decide +kernel
theorem dX11_doKept_7 : decode cX11_doKept 7 = .ok (.if_icmp .ge 69, 3) := by decide +kernel
theorem dX11_doKept_10 : decode cX11_doKept 10 = .ok (.aload_n 0, 1) := by decide +kernel
theorem dX11_doKept_11 : decode cX11_doKept 11 = .ok (.sipush 254, 3) := by decide +kernel
theorem dX11_doKept_14 : decode cX11_doKept 14 = .ok (.iload_n 1, 1) := by decide +kernel
theorem dX11_doKept_15 : decode cX11_doKept 15 = .ok (.iadd, 1) := by decide +kernel
theorem dX11_doKept_16 : decode cX11_doKept 16 = .ok (.invokevirtual 234, 3) := by decide +kernel
theorem dX11_doKept_19 : decode cX11_doKept 19 = .ok (.iconst 1, 1) := by decide +kernel
theorem dX11_doKept_20 : decode cX11_doKept 20 = .ok (.if_icmp .ne 50, 3) := by decide +kernel
theorem dX11_doKept_23 : decode cX11_doKept 23 = .ok (.aload_n 0, 1) := by decide +kernel
theorem dX11_doKept_24 : decode cX11_doKept 24 = .ok (.sipush 170, 3) := by decide +kernel
theorem dX11_doKept_27 : decode cX11_doKept 27 = .ok (.aload_n 0, 1) := by decide +kernel
theorem dX11_doKept_28 : decode cX11_doKept 28 = .ok (.getfield 32, 3) := by decide +kernel
theorem dX11_doKept_31 : decode cX11_doKept 31 = .ok (.iload_n 1, 1) := by decide +kernel
theorem dX11_doKept_32 : decode cX11_doKept 32 = .ok (.iaload, 1) := by decide +kernel
theorem dX11_doKept_33 : decode cX11_doKept 33 = .ok (.iadd, 1) := by decide +kernel
theorem dX11_doKept_34 : decode cX11_doKept 34 = .ok (.invokevirtual 234, 3) := by decide +kernel
theorem dX11_doKept_37 : decode cX11_doKept 37 = .ok (.iconst 2, 1) := by decide +kernel
theorem dX11_doKept_38 : decode cX11_doKept 38 = .ok (.if_icmp .eq 32, 3) := by decide +kernel
theorem dX11_doKept_41 : decode cX11_doKept 41 = .ok (.aload_n 0, 1) := by decide +kernel
theorem dX11_doKept_42 : decode cX11_doKept 42 = .ok (.sipush 254, 3) := by decide +kernel
theorem dX11_doKept_45 : decode cX11_doKept 45 = .ok (.iload_n 1, 1) := by decide +kernel
theorem dX11_doKept_46 : decode cX11_doKept 46 = .ok (.iadd, 1) := by decide +kernel
theorem dX11_doKept_47 : decode cX11_doKept 47 = .ok (.iconst 0, 1) := by decide +kernel
theorem dX11_doKept_48 : decode cX11_doKept 48 = .ok (.invokevirtual 250, 3) := by decide +kernel
theorem dX11_doKept_51 : decode cX11_doKept 51 = .ok (.aload_n 0, 1) := by decide +kernel
theorem dX11_doKept_52 : decode cX11_doKept 52 = .ok (.sipush 230, 3) := by decide +kernel
theorem dX11_doKept_55 : decode cX11_doKept 55 = .ok (.iload_n 1, 1) := by decide +kernel
theorem dX11_doKept_56 : decode cX11_doKept 56 = .ok (.iadd, 1) := by decide +kernel
theorem dX11_doKept_57 : decode cX11_doKept 57 = .ok (.aload_n 0, 1) := by decide +kernel
theorem dX11_doKept_58 : decode cX11_doKept 58 = .ok (.iload_n 1, 1) := by decide +kernel
theorem dX11_doKept_59 : decode cX11_doKept 59 = .ok (.invokevirtual 360, 3) := by decide +kernel
theorem dX11_doKept_62 : decode cX11_doKept 62 = .ok (.invokevirtual 250, 3) := by decide +kernel
theorem dX11_doKept_65 : decode cX11_doKept 65 = .ok (.iconst 0, 1) := by decide +kernel
theorem dX11_doKept_66 : decode cX11_doKept 66 = .ok (.istore_n 1, 1) := by decide +kernel
theorem dX11_doKept_67 : decode cX11_doKept 67 = .ok (.goto (-65), 3) := by decide +kernel
theorem dX11_doKept_70 : decode cX11_doKept 70 = .ok (.iinc 1 1, 3) := by decide +kernel
theorem dX11_doKept_73 : decode cX11_doKept 73 = .ok (.goto (-71), 3) := by decide +kernel
theorem dX11_doKept_76 : decode cX11_doKept 76 = .ok (.return_, 1) := by decide +kernel
set_option maxRecDepth 20000 in
theorem ggX11_runs_X11_of : GoodIn wsX11_runs wsX11_of := goodIn_r _ [8, 9, 10, 150, 151, 152, 153, 154, 155, 156, 157, 158, 159, 160, 161, 162, 163, 164, 165, 166, 167, 168, 169, 170, 171, 172, 173, 174, 175, 176, 177, 178, 179, 180, 181, 182, 183, 184, 185, 186, 187, 188, 189, 190, 191, 192, 193, 194, 195] (by decide +kernel) (by decide +kernel)
set_option maxRecDepth 20000 in
theorem gX11_runs_X11_of : GoodIn wsX11_runs (wsV RX11 234 RX11 yX11_of wsX11_of) := goodIn_app (goodIn_of _ (by decide +kernel)) ggX11_runs_X11_of
set_option maxRecDepth 20000 in
theorem ggX11_runs_X11_doKept : GoodIn wsX11_runs wsX11_doKept := goodIn_r _ [14, 15, 3, 4, 5, 6, 7, 8, 9, 10, 16, 17, 18, 19, 20, 21, 22, 23, 24, 25, 26, 27, 28, 29, 30, 31, 32, 33, 34, 35, 36, 37, 38, 39, 40, 41, 42, 43, 44, 45, 46, 47, 48, 49, 50, 51, 52, 53, 54, 55, 56, 57, 58, 59, 60, 61, 62, 63, 64, 65, 66, 67, 68, 69, 70, 71, 72, 73, 74, 75, 76, 77, 78, 79, 80, 81, 82, 83, 84, 85, 86, 87, 88, 89, 90, 91, 92, 93, 94, 95, 96, 97, 98, 99, 100, 101, 102, 103, 104, 105, 106, 107, 108, 109, 110, 111, 112, 113, 114, 115, 116, 117, 118, 119, 120, 121, 122, 123, 124, 125, 126, 127, 128, 129, 130, 131, 132, 133, 134, 135, 136, 137, 138, 139, 140, 141, 142, 143, 144, 145, 146, 147, 148, 149, 150, 151, 152, 153, 154, 155, 156, 157, 158, 159, 160, 161, 162, 163, 164, 165, 166, 167, 168, 169, 170, 171, 172, 173, 174, 175, 176, 177, 178, 179, 180, 181, 182, 183, 184, 185, 186, 187, 188, 189, 190, 191, 192, 193, 194, 195] (by decide +kernel) (by decide +kernel)
set_option maxRecDepth 20000 in
theorem gX11_runs_X11_doKept : GoodIn wsX11_runs (wsV RX11 363 RX11 yX11_doKept wsX11_doKept) := goodIn_app (goodIn_of _ (by decide +kernel)) ggX11_runs_X11_doKept
set_option maxRecDepth 20000 in
theorem ggX11_runs_X11_lay : GoodIn wsX11_runs wsX11_lay := goodIn_r _ [19, 9, 10, 150, 151, 152, 153, 154, 155, 156, 157, 158, 159, 160, 161, 162, 163, 164, 165, 166, 167, 168, 169, 170, 171, 172, 173, 174, 175, 176, 177, 178, 179, 180, 181, 182, 183, 184, 185, 186, 187, 188, 189, 190, 191, 192, 193, 194, 195] (by decide +kernel) (by decide +kernel)
set_option maxRecDepth 20000 in
theorem gX11_runs_X11_lay : GoodIn wsX11_runs (wsV RX11 250 RX11 yX11_lay wsX11_lay) := goodIn_app (goodIn_of _ (by decide +kernel)) ggX11_runs_X11_lay
set_option maxRecDepth 20000 in
theorem ggX11_runs_X11_stepDone : GoodIn wsX11_runs wsX11_stepDone := goodIn_r _ [23, 3, 24, 25, 26, 27, 28, 29, 30, 7, 31, 32, 33, 34, 35, 36, 4, 5, 6, 8, 9, 10, 16, 17, 18, 19, 37, 38, 39, 40, 41, 42, 43, 44, 45, 46, 47, 48, 49, 50, 51, 52, 53, 54, 55, 56, 57, 58, 59, 60, 61, 62, 63, 64, 65, 66, 67, 68, 69, 70, 71, 72, 73, 74, 75, 76, 77, 78, 79, 80, 81, 82, 83, 84, 85, 86, 87, 88, 89, 90, 91, 92, 93, 94, 95, 96, 97, 98, 99, 100, 101, 102, 103, 104, 105, 106, 107, 108, 109, 110, 111, 112, 113, 114, 115, 116, 117, 118, 119, 120, 121, 122, 123, 124, 125, 126, 127, 128, 129, 130, 131, 132, 133, 134, 135, 136, 137, 138, 139, 140, 141, 142, 143, 144, 145, 146, 147, 148, 149, 150, 151, 152, 153, 154, 155, 156, 157, 158, 159, 160, 161, 162, 163, 164, 165, 166, 167, 168, 169, 170, 171, 172, 173, 174, 175, 176, 177, 178, 179, 180, 181, 182, 183, 184, 185, 186, 187, 188, 189, 190, 191, 192, 193, 194, 195] (by decide +kernel) (by decide +kernel)
set_option maxRecDepth 20000 in
theorem gX11_runs_X11_stepDone : GoodIn wsX11_runs (wsV RX11 360 RX11 yX11_stepDone wsX11_stepDone) := goodIn_app (goodIn_of _ (by decide +kernel)) ggX11_runs_X11_stepDone
theorem dX11_runs_0 : decode cX11_runs 0 = .ok (.iconst 0, 1) := by decide +kernel
theorem dX11_runs_1 : decode cX11_runs 1 = .ok (.istore_n 2, 1) := by decide +kernel
theorem dX11_runs_2 : decode cX11_runs 2 = .ok (.iload_n 2, 1) := by decide +kernel
theorem dX11_runs_3 : decode cX11_runs 3 = .ok (.iload_n 1, 1) := by decide +kernel
theorem dX11_runs_4 : decode cX11_runs 4 = .ok (.if_icmp .ge 101, 3) := by decide +kernel
theorem dX11_runs_7 : decode cX11_runs 7 = .ok (.aload_n 0, 1) := by decide +kernel
theorem dX11_runs_8 : decode cX11_runs 8 = .ok (.sipush 226, 3) := by decide +kernel
theorem dX11_runs_11 : decode cX11_runs 11 = .ok (.invokevirtual 234, 3) := by decide +kernel
theorem dX11_runs_14 : decode cX11_runs 14 = .ok (.aload_n 0, 1) := by decide +kernel
theorem dX11_runs_15 : decode cX11_runs 15 = .ok (.getfield 247, 3) := by decide +kernel
theorem dX11_runs_18 : decode cX11_runs 18 = .ok (.if_icmp .ge 87, 3) := by decide +kernel
theorem dX11_runs_21 : decode cX11_runs 21 = .ok (.aload_n 0, 1) := by decide +kernel
theorem dX11_runs_22 : decode cX11_runs 22 = .ok (.invokevirtual 363, 3) := by decide +kernel
theorem dX11_runs_25 : decode cX11_runs 25 = .ok (.aload_n 0, 1) := by decide +kernel
theorem dX11_runs_26 : decode cX11_runs 26 = .ok (.getfield 59, 3) := by decide +kernel
theorem dX11_runs_29 : decode cX11_runs 29 = .ok (.aload_n 0, 1) := by decide +kernel
theorem dX11_runs_30 : decode cX11_runs 30 = .ok (.sipush 226, 3) := by decide +kernel
theorem dX11_runs_33 : decode cX11_runs 33 = .ok (.invokevirtual 234, 3) := by decide +kernel
theorem dX11_runs_36 : decode cX11_runs 36 = .ok (.iaload, 1) := by decide +kernel
theorem dX11_runs_37 : decode cX11_runs 37 = .ok (.istore_n 3, 1) := by decide +kernel
theorem dX11_runs_38 : decode cX11_runs 38 = .ok (.aload_n 0, 1) := by decide +kernel
theorem dX11_runs_39 : decode cX11_runs 39 = .ok (.sipush 226, 3) := by decide +kernel
theorem dX11_runs_42 : decode cX11_runs 42 = .ok (.aload_n 0, 1) := by decide +kernel
theorem dX11_runs_43 : decode cX11_runs 43 = .ok (.sipush 226, 3) := by decide +kernel
theorem dX11_runs_46 : decode cX11_runs 46 = .ok (.invokevirtual 234, 3) := by decide +kernel
theorem dX11_runs_49 : decode cX11_runs 49 = .ok (.iconst 1, 1) := by decide +kernel
theorem dX11_runs_50 : decode cX11_runs 50 = .ok (.iadd, 1) := by decide +kernel
theorem dX11_runs_51 : decode cX11_runs 51 = .ok (.invokevirtual 250, 3) := by decide +kernel
theorem dX11_runs_54 : decode cX11_runs 54 = .ok (.aload_n 0, 1) := by decide +kernel
theorem dX11_runs_55 : decode cX11_runs 55 = .ok (.sipush 170, 3) := by decide +kernel
theorem dX11_runs_58 : decode cX11_runs 58 = .ok (.aload_n 0, 1) := by decide +kernel
theorem dX11_runs_59 : decode cX11_runs 59 = .ok (.getfield 32, 3) := by decide +kernel
theorem dX11_runs_62 : decode cX11_runs 62 = .ok (.iload_n 3, 1) := by decide +kernel
theorem dX11_runs_63 : decode cX11_runs 63 = .ok (.iaload, 1) := by decide +kernel
theorem dX11_runs_64 : decode cX11_runs 64 = .ok (.iadd, 1) := by decide +kernel
theorem dX11_runs_65 : decode cX11_runs 65 = .ok (.invokevirtual 234, 3) := by decide +kernel
theorem dX11_runs_68 : decode cX11_runs 68 = .ok (.iconst 2, 1) := by decide +kernel
theorem dX11_runs_69 : decode cX11_runs 69 = .ok (.if_icmp .ne 16, 3) := by decide +kernel
theorem dX11_runs_72 : decode cX11_runs 72 = .ok (.aload_n 0, 1) := by decide +kernel
theorem dX11_runs_73 : decode cX11_runs 73 = .ok (.sipush 254, 3) := by decide +kernel
theorem dX11_runs_76 : decode cX11_runs 76 = .ok (.iload_n 3, 1) := by decide +kernel
theorem dX11_runs_77 : decode cX11_runs 77 = .ok (.iadd, 1) := by decide +kernel
theorem dX11_runs_78 : decode cX11_runs 78 = .ok (.iconst 1, 1) := by decide +kernel
theorem dX11_runs_79 : decode cX11_runs 79 = .ok (.invokevirtual 250, 3) := by decide +kernel
theorem dX11_runs_82 : decode cX11_runs 82 = .ok (.goto 17, 3) := by decide +kernel
theorem dX11_runs_85 : decode cX11_runs 85 = .ok (.aload_n 0, 1) := by decide +kernel
theorem dX11_runs_86 : decode cX11_runs 86 = .ok (.sipush 230, 3) := by decide +kernel
theorem dX11_runs_89 : decode cX11_runs 89 = .ok (.iload_n 3, 1) := by decide +kernel
theorem dX11_runs_90 : decode cX11_runs 90 = .ok (.iadd, 1) := by decide +kernel
theorem dX11_runs_91 : decode cX11_runs 91 = .ok (.aload_n 0, 1) := by decide +kernel
theorem dX11_runs_92 : decode cX11_runs 92 = .ok (.iload_n 3, 1) := by decide +kernel
theorem dX11_runs_93 : decode cX11_runs 93 = .ok (.invokevirtual 360, 3) := by decide +kernel
theorem dX11_runs_96 : decode cX11_runs 96 = .ok (.invokevirtual 250, 3) := by decide +kernel
theorem dX11_runs_99 : decode cX11_runs 99 = .ok (.iinc 2 1, 3) := by decide +kernel
theorem dX11_runs_102 : decode cX11_runs 102 = .ok (.goto (-100), 3) := by decide +kernel
theorem dX11_runs_105 : decode cX11_runs 105 = .ok (.aload_n 0, 1) := by decide +kernel
theorem dX11_runs_106 : decode cX11_runs 106 = .ok (.invokevirtual 363, 3) := by decide +kernel
theorem dX11_runs_109 : decode cX11_runs 109 = .ok (.return_, 1) := by decide +kernel
set_option maxRecDepth 20000 in
theorem ggX11_answeredMany_X11_of : GoodIn wsX11_answeredMany wsX11_of := goodIn_r _ [6, 7, 8, 9, 10, 11, 12, 13, 14, 15, 16, 17, 18, 19, 20, 21, 22, 23, 24, 25, 26, 27, 28, 29, 30, 31, 32, 33, 34, 35, 36, 37, 38, 39, 40, 41, 42, 43, 44, 45, 46, 47, 48, 49, 50, 51, 52, 53, 54] (by decide +kernel) (by decide +kernel)
set_option maxRecDepth 20000 in
theorem gX11_answeredMany_X11_of : GoodIn wsX11_answeredMany (wsV RX11 234 RX11 yX11_of wsX11_of) := goodIn_app (goodIn_of _ (by decide +kernel)) ggX11_answeredMany_X11_of
theorem dX11_answeredMany_0 : decode cX11_answeredMany 0 = .ok (.iconst 0, 1) := by decide +kernel
theorem dX11_answeredMany_1 : decode cX11_answeredMany 1 = .ok (.istore_n 1, 1) := by decide +kernel
theorem dX11_answeredMany_2 : decode cX11_answeredMany 2 = .ok (.iconst 0, 1) := by decide +kernel
theorem dX11_answeredMany_3 : decode cX11_answeredMany 3 = .ok (.istore_n 2, 1) := by decide +kernel
theorem dX11_answeredMany_4 : decode cX11_answeredMany 4 = .ok (.iload_n 2, 1) := by decide +kernel
theorem dX11_answeredMany_5 : decode cX11_answeredMany 5 = .ok (.aload_n 0, 1) := by decide +kernel
theorem dX11_answeredMany_6 : decode cX11_answeredMany 6 = .ok (.getfield 195, 3) := by decide +kernel
theorem dX11_answeredMany_9 : decode cX11_answeredMany 9 = .ok (.if_icmp .ge 31, 3) := by decide +kernel
theorem dX11_answeredMany_12 : decode cX11_answeredMany 12 = .ok (.iload_n 1, 1) := by decide +kernel
theorem dX11_answeredMany_13 : decode cX11_answeredMany 13 = .ok (.aload_n 0, 1) := by decide +kernel
theorem dX11_answeredMany_14 : decode cX11_answeredMany 14 = .ok (.sipush 230, 3) := by decide +kernel
theorem dX11_answeredMany_17 : decode cX11_answeredMany 17 = .ok (.iload_n 2, 1) := by decide +kernel
theorem dX11_answeredMany_18 : decode cX11_answeredMany 18 = .ok (.iadd, 1) := by decide +kernel
theorem dX11_answeredMany_19 : decode cX11_answeredMany 19 = .ok (.invokevirtual 234, 3) := by decide +kernel
theorem dX11_answeredMany_22 : decode cX11_answeredMany 22 = .ok (.bipush (-5), 2) := by decide +kernel
theorem dX11_answeredMany_24 : decode cX11_answeredMany 24 = .ok (.if_icmp .eq 7, 3) := by decide +kernel
theorem dX11_answeredMany_27 : decode cX11_answeredMany 27 = .ok (.iconst 1, 1) := by decide +kernel
theorem dX11_answeredMany_28 : decode cX11_answeredMany 28 = .ok (.goto 4, 3) := by decide +kernel
theorem dX11_answeredMany_31 : decode cX11_answeredMany 31 = .ok (.iconst 0, 1) := by decide +kernel
theorem dX11_answeredMany_32 : decode cX11_answeredMany 32 = .ok (.iadd, 1) := by decide +kernel
theorem dX11_answeredMany_33 : decode cX11_answeredMany 33 = .ok (.istore_n 1, 1) := by decide +kernel
theorem dX11_answeredMany_34 : decode cX11_answeredMany 34 = .ok (.iinc 2 1, 3) := by decide +kernel
theorem dX11_answeredMany_37 : decode cX11_answeredMany 37 = .ok (.goto (-33), 3) := by decide +kernel
theorem dX11_answeredMany_40 : decode cX11_answeredMany 40 = .ok (.iload_n 1, 1) := by decide +kernel
theorem dX11_answeredMany_41 : decode cX11_answeredMany 41 = .ok (.ireturn, 1) := by decide +kernel
theorem dX11_fails_0 : decode cX11_fails 0 = .ok (.aload_n 0, 1) := by decide +kernel
theorem dX11_fails_1 : decode cX11_fails 1 = .ok (.iload_n 1, 1) := by decide +kernel
theorem dX11_fails_2 : decode cX11_fails 2 = .ok (.putfield 77, 3) := by decide +kernel
theorem dX11_fails_5 : decode cX11_fails 5 = .ok (.iconst 0, 1) := by decide +kernel
theorem dX11_fails_6 : decode cX11_fails 6 = .ok (.ireturn, 1) := by decide +kernel
set_option maxRecDepth 20000 in
theorem ggX11_key_X11_many : GoodIn wsX11_key wsX11_many := goodIn_r _ [6, 7, 8, 9, 5, 10, 11, 12, 17, 18, 19, 20, 21, 22, 23, 24, 25, 26, 27, 28, 29, 30, 31, 32, 33, 34, 35, 36, 37, 38, 39, 40, 41, 42, 43, 44, 45, 46, 47, 48, 49, 50, 51, 52, 53, 54, 55, 56, 57, 58, 59, 60, 61, 62] (by decide +kernel) (by decide +kernel)
set_option maxRecDepth 20000 in
theorem gX11_key_X11_many : GoodIn wsX11_key (wsV RX11 267 RX11 yX11_many wsX11_many) := goodIn_app (goodIn_of _ (by decide +kernel)) ggX11_key_X11_many
set_option maxRecDepth 20000 in
theorem ggX11_key_X11_fails : GoodIn wsX11_key wsX11_fails := goodIn_r _ [16, 1, 17, 18, 19, 20, 21, 22, 23, 24, 25, 26, 27, 28, 29, 30, 31, 32, 33, 34, 35, 36, 37, 38, 39, 40, 41, 42, 43, 44, 45, 46, 47, 48, 49, 50, 51, 52, 53, 54, 55, 56, 57, 58, 59, 60, 61, 62] (by decide +kernel) (by decide +kernel)
set_option maxRecDepth 20000 in
theorem gX11_key_X11_fails : GoodIn wsX11_key (wsV RX11 366 RX11 yX11_fails wsX11_fails) := goodIn_app (goodIn_of _ (by decide +kernel)) ggX11_key_X11_fails
set_option maxRecDepth 20000 in
theorem ggX11_key_X11_of : GoodIn wsX11_key wsX11_of := goodIn_r _ [10, 11, 12, 17, 18, 19, 20, 21, 22, 23, 24, 25, 26, 27, 28, 29, 30, 31, 32, 33, 34, 35, 36, 37, 38, 39, 40, 41, 42, 43, 44, 45, 46, 47, 48, 49, 50, 51, 52, 53, 54, 55, 56, 57, 58, 59, 60, 61, 62] (by decide +kernel) (by decide +kernel)
set_option maxRecDepth 20000 in
theorem gX11_key_X11_of : GoodIn wsX11_key (wsV RX11 234 RX11 yX11_of wsX11_of) := goodIn_app (goodIn_of _ (by decide +kernel)) ggX11_key_X11_of
theorem dX11_key_0 : decode cX11_key 0 = .ok (.aload_n 0, 1) := by decide +kernel
theorem dX11_key_1 : decode cX11_key 1 = .ok (.iconst 0, 1) := by decide +kernel
theorem dX11_key_2 : decode cX11_key 2 = .ok (.putfield 77, 3) := by decide +kernel
theorem dX11_key_5 : decode cX11_key 5 = .ok (.iload_n 1, 1) := by decide +kernel
theorem dX11_key_6 : decode cX11_key 6 = .ok (.ifCond .lt 11, 3) := by decide +kernel
theorem dX11_key_9 : decode cX11_key 9 = .ok (.iload_n 1, 1) := by decide +kernel
theorem dX11_key_10 : decode cX11_key 10 = .ok (.aload_n 0, 1) := by decide +kernel
theorem dX11_key_11 : decode cX11_key 11 = .ok (.invokevirtual 267, 3) := by decide +kernel
theorem dX11_key_14 : decode cX11_key 14 = .ok (.if_icmp .lt 9, 3) := by decide +kernel
theorem dX11_key_17 : decode cX11_key 17 = .ok (.aload_n 0, 1) := by decide +kernel
theorem dX11_key_18 : decode cX11_key 18 = .ok (.iconst 1, 1) := by decide +kernel
theorem dX11_key_19 : decode cX11_key 19 = .ok (.invokevirtual 366, 3) := by decide +kernel
theorem dX11_key_22 : decode cX11_key 22 = .ok (.ireturn, 1) := by decide +kernel
theorem dX11_key_23 : decode cX11_key 23 = .ok (.iload_n 2, 1) := by decide +kernel
theorem dX11_key_24 : decode cX11_key 24 = .ok (.tableswitch 99 0 3 #[32, 40, 49, 74], 32) := by decide +kernel
theorem dX11_key_56 : decode cX11_key 56 = .ok (.aload_n 0, 1) := by decide +kernel
theorem dX11_key_57 : decode cX11_key 57 = .ok (.iconst 1, 1) := by decide +kernel
theorem dX11_key_58 : decode cX11_key 58 = .ok (.iload_n 1, 1) := by decide +kernel
theorem dX11_key_59 : decode cX11_key 59 = .ok (.iadd, 1) := by decide +kernel
theorem dX11_key_60 : decode cX11_key 60 = .ok (.invokevirtual 234, 3) := by decide +kernel
theorem dX11_key_63 : decode cX11_key 63 = .ok (.ireturn, 1) := by decide +kernel
theorem dX11_key_64 : decode cX11_key 64 = .ok (.aload_n 0, 1) := by decide +kernel
theorem dX11_key_65 : decode cX11_key 65 = .ok (.bipush 25, 2) := by decide +kernel
theorem dX11_key_67 : decode cX11_key 67 = .ok (.iload_n 1, 1) := by decide +kernel
theorem dX11_key_68 : decode cX11_key 68 = .ok (.iadd, 1) := by decide +kernel
theorem dX11_key_69 : decode cX11_key 69 = .ok (.invokevirtual 234, 3) := by decide +kernel
theorem dX11_key_72 : decode cX11_key 72 = .ok (.ireturn, 1) := by decide +kernel
theorem dX11_key_73 : decode cX11_key 73 = .ok (.aload_n 0, 1) := by decide +kernel
theorem dX11_key_74 : decode cX11_key 74 = .ok (.bipush 49, 2) := by decide +kernel
theorem dX11_key_76 : decode cX11_key 76 = .ok (.iload_n 1, 1) := by decide +kernel
theorem dX11_key_77 : decode cX11_key 77 = .ok (.iadd, 1) := by decide +kernel
theorem dX11_key_78 : decode cX11_key 78 = .ok (.invokevirtual 234, 3) := by decide +kernel
theorem dX11_key_81 : decode cX11_key 81 = .ok (.ifCond .ge 8, 3) := by decide +kernel
theorem dX11_key_84 : decode cX11_key 84 = .ok (.bipush (-2), 2) := by decide +kernel
theorem dX11_key_86 : decode cX11_key 86 = .ok (.goto 11, 3) := by decide +kernel
theorem dX11_key_89 : decode cX11_key 89 = .ok (.aload_n 0, 1) := by decide +kernel
theorem dX11_key_90 : decode cX11_key 90 = .ok (.bipush 49, 2) := by decide +kernel
theorem dX11_key_92 : decode cX11_key 92 = .ok (.iload_n 1, 1) := by decide +kernel
theorem dX11_key_93 : decode cX11_key 93 = .ok (.iadd, 1) := by decide +kernel
theorem dX11_key_94 : decode cX11_key 94 = .ok (.invokevirtual 234, 3) := by decide +kernel
theorem dX11_key_97 : decode cX11_key 97 = .ok (.ireturn, 1) := by decide +kernel
theorem dX11_key_98 : decode cX11_key 98 = .ok (.aload_n 0, 1) := by decide +kernel
theorem dX11_key_99 : decode cX11_key 99 = .ok (.bipush 73, 2) := by decide +kernel
theorem dX11_key_101 : decode cX11_key 101 = .ok (.iload_n 1, 1) := by decide +kernel
theorem dX11_key_102 : decode cX11_key 102 = .ok (.iadd, 1) := by decide +kernel
theorem dX11_key_103 : decode cX11_key 103 = .ok (.invokevirtual 234, 3) := by decide +kernel
theorem dX11_key_106 : decode cX11_key 106 = .ok (.ifCond .ge 8, 3) := by decide +kernel
theorem dX11_key_109 : decode cX11_key 109 = .ok (.bipush (-2), 2) := by decide +kernel
theorem dX11_key_111 : decode cX11_key 111 = .ok (.goto 11, 3) := by decide +kernel
theorem dX11_key_114 : decode cX11_key 114 = .ok (.aload_n 0, 1) := by decide +kernel
theorem dX11_key_115 : decode cX11_key 115 = .ok (.bipush 73, 2) := by decide +kernel
theorem dX11_key_117 : decode cX11_key 117 = .ok (.iload_n 1, 1) := by decide +kernel
theorem dX11_key_118 : decode cX11_key 118 = .ok (.iadd, 1) := by decide +kernel
theorem dX11_key_119 : decode cX11_key 119 = .ok (.invokevirtual 234, 3) := by decide +kernel
theorem dX11_key_122 : decode cX11_key 122 = .ok (.ireturn, 1) := by decide +kernel
theorem dX11_key_123 : decode cX11_key 123 = .ok (.aload_n 0, 1) := by decide +kernel
theorem dX11_key_124 : decode cX11_key 124 = .ok (.iconst 2, 1) := by decide +kernel
theorem dX11_key_125 : decode cX11_key 125 = .ok (.invokevirtual 366, 3) := by decide +kernel
theorem dX11_key_128 : decode cX11_key 128 = .ok (.ireturn, 1) := by decide +kernel
set_option maxRecDepth 20000 in
theorem ggX11_bits_X11_isKeyTold : GoodIn wsX11_bits wsX11_isKeyTold := goodIn_r _ [5, 6, 7, 8, 4, 9] (by decide +kernel) (by decide +kernel)
set_option maxRecDepth 20000 in
theorem gX11_bits_X11_isKeyTold : GoodIn wsX11_bits (va_wsS RX11 369 yX11_isKeyTold wsX11_isKeyTold) := goodIn_app (goodIn_of _ (by decide +kernel)) ggX11_bits_X11_isKeyTold
set_option maxRecDepth 20000 in
theorem ggX11_bits_X11_keyOf : GoodIn wsX11_bits wsX11_keyOf := goodIn_r _ [12, 13, 14, 4, 15, 16, 17, 18, 19, 20, 21, 22, 23, 24, 25, 26, 27, 28, 29, 30, 31, 32, 33, 34, 35, 36] (by decide +kernel) (by decide +kernel)
set_option maxRecDepth 20000 in
theorem gX11_bits_X11_keyOf : GoodIn wsX11_bits (va_wsS RX11 177 yX11_keyOf wsX11_keyOf) := goodIn_app (goodIn_of _ (by decide +kernel)) ggX11_bits_X11_keyOf
theorem dX11_bits_0 : decode cX11_bits 0 = .ok (.aload_n 0, 1) := by decide +kernel
theorem dX11_bits_1 : decode cX11_bits 1 = .ok (.iconst 0, 1) := by decide +kernel
theorem dX11_bits_2 : decode cX11_bits 2 = .ok (.putfield 77, 3) := by decide +kernel
theorem dX11_bits_5 : decode cX11_bits 5 = .ok (.iload_n 1, 1) := by decide +kernel
theorem dX11_bits_6 : decode cX11_bits 6 = .ok (.iload_n 2, 1) := by decide +kernel
theorem dX11_bits_7 : decode cX11_bits 7 = .ok (.invokestatic 369, 3) := by decide +kernel
theorem dX11_bits_10 : decode cX11_bits 10 = .ok (.ifCond .eq 11, 3) := by decide +kernel
theorem dX11_bits_13 : decode cX11_bits 13 = .ok (.iload_n 1, 1) := by decide +kernel
theorem dX11_bits_14 : decode cX11_bits 14 = .ok (.iload_n 2, 1) := by decide +kernel
theorem dX11_bits_15 : decode cX11_bits 15 = .ok (.invokestatic 177, 3) := by decide +kernel
theorem dX11_bits_18 : decode cX11_bits 18 = .ok (.goto 4, 3) := by decide +kernel
theorem dX11_bits_21 : decode cX11_bits 21 = .ok (.iconst (-1), 1) := by decide +kernel
theorem dX11_bits_22 : decode cX11_bits 22 = .ok (.ireturn, 1) := by decide +kernel
set_option maxRecDepth 20000 in
theorem ggX11_place_X11_isKeyTold : GoodIn wsX11_place wsX11_isKeyTold := goodIn_r _ [5, 6, 7, 8, 4, 9] (by decide +kernel) (by decide +kernel)
set_option maxRecDepth 20000 in
theorem gX11_place_X11_isKeyTold : GoodIn wsX11_place (va_wsS RX11 369 yX11_isKeyTold wsX11_isKeyTold) := goodIn_app (goodIn_of _ (by decide +kernel)) ggX11_place_X11_isKeyTold
set_option maxRecDepth 20000 in
theorem ggX11_place_X11_keyOf : GoodIn wsX11_place wsX11_keyOf := goodIn_r _ [12, 13, 14, 4, 15, 16, 17, 18, 19, 20, 21, 22, 23, 24, 25, 26, 27, 28, 29, 30, 31, 32, 33, 34, 35, 36] (by decide +kernel) (by decide +kernel)
set_option maxRecDepth 20000 in
theorem gX11_place_X11_keyOf : GoodIn wsX11_place (va_wsS RX11 177 yX11_keyOf wsX11_keyOf) := goodIn_app (goodIn_of _ (by decide +kernel)) ggX11_place_X11_keyOf
set_option maxRecDepth 20000 in
theorem ggX11_place_X11_placeOf : GoodIn wsX11_place wsX11_placeOf := goodIn_r _ [40, 41, 42, 43, 4, 44, 45, 46, 47, 48, 49, 50, 51, 52, 53, 54, 55, 56, 57, 58, 59, 60, 61, 62, 63, 64, 65, 66, 67, 68, 69, 70, 71, 72, 73, 74, 75, 76, 77, 78, 79, 80, 81, 82, 83, 84, 85, 86, 87, 88, 89, 90, 91, 92, 93, 94, 95, 96] (by decide +kernel) (by decide +kernel)
set_option maxRecDepth 20000 in
theorem gX11_place_X11_placeOf : GoodIn wsX11_place (wsV RX11 254 RX11 yX11_placeOf wsX11_placeOf) := goodIn_app (goodIn_of _ (by decide +kernel)) ggX11_place_X11_placeOf
theorem dX11_place_0 : decode cX11_place 0 = .ok (.aload_n 0, 1) := by decide +kernel
theorem dX11_place_1 : decode cX11_place 1 = .ok (.iconst 0, 1) := by decide +kernel
theorem dX11_place_2 : decode cX11_place 2 = .ok (.putfield 77, 3) := by decide +kernel
theorem dX11_place_5 : decode cX11_place 5 = .ok (.iload_n 1, 1) := by decide +kernel
theorem dX11_place_6 : decode cX11_place 6 = .ok (.iload_n 2, 1) := by decide +kernel
theorem dX11_place_7 : decode cX11_place 7 = .ok (.invokestatic 369, 3) := by decide +kernel
theorem dX11_place_10 : decode cX11_place 10 = .ok (.ifCond .eq 15, 3) := by decide +kernel
theorem dX11_place_13 : decode cX11_place 13 = .ok (.aload_n 0, 1) := by decide +kernel
theorem dX11_place_14 : decode cX11_place 14 = .ok (.iload_n 1, 1) := by decide +kernel
theorem dX11_place_15 : decode cX11_place 15 = .ok (.iload_n 2, 1) := by decide +kernel
theorem dX11_place_16 : decode cX11_place 16 = .ok (.invokestatic 177, 3) := by decide +kernel
theorem dX11_place_19 : decode cX11_place 19 = .ok (.invokevirtual 254, 3) := by decide +kernel
theorem dX11_place_22 : decode cX11_place 22 = .ok (.goto 4, 3) := by decide +kernel
theorem dX11_place_25 : decode cX11_place 25 = .ok (.iconst (-1), 1) := by decide +kernel
theorem dX11_place_26 : decode cX11_place 26 = .ok (.ireturn, 1) := by decide +kernel
set_option maxRecDepth 20000 in
theorem ggX11_aheadOf_X11_of : GoodIn wsX11_aheadOf wsX11_of := goodIn_r _ [5, 6, 7, 8, 9, 10, 11, 12, 13, 14, 15, 16, 17, 18, 19, 20, 21, 22, 23, 24, 25, 26, 27, 28, 29, 30, 31, 32, 33, 34, 35, 36, 37, 38, 39, 40, 41, 42, 43, 44, 45, 46, 47, 48, 49, 50, 51, 52, 53] (by decide +kernel) (by decide +kernel)
set_option maxRecDepth 20000 in
theorem gX11_aheadOf_X11_of : GoodIn wsX11_aheadOf (wsV RX11 234 RX11 yX11_of wsX11_of) := goodIn_app (goodIn_of _ (by decide +kernel)) ggX11_aheadOf_X11_of
theorem dX11_aheadOf_0 : decode cX11_aheadOf 0 = .ok (.iload_n 1, 1) := by decide +kernel
theorem dX11_aheadOf_1 : decode cX11_aheadOf 1 = .ok (.ifCond .ne 7, 3) := by decide +kernel
theorem dX11_aheadOf_4 : decode cX11_aheadOf 4 = .ok (.iconst 0, 1) := by decide +kernel
theorem dX11_aheadOf_5 : decode cX11_aheadOf 5 = .ok (.goto 12, 3) := by decide +kernel
theorem dX11_aheadOf_8 : decode cX11_aheadOf 8 = .ok (.aload_n 0, 1) := by decide +kernel
theorem dX11_aheadOf_9 : decode cX11_aheadOf 9 = .ok (.iconst 1, 1) := by decide +kernel
theorem dX11_aheadOf_10 : decode cX11_aheadOf 10 = .ok (.iload_n 1, 1) := by decide +kernel
theorem dX11_aheadOf_11 : decode cX11_aheadOf 11 = .ok (.iadd, 1) := by decide +kernel
theorem dX11_aheadOf_12 : decode cX11_aheadOf 12 = .ok (.iconst 1, 1) := by decide +kernel
theorem dX11_aheadOf_13 : decode cX11_aheadOf 13 = .ok (.isub, 1) := by decide +kernel
theorem dX11_aheadOf_14 : decode cX11_aheadOf 14 = .ok (.invokevirtual 234, 3) := by decide +kernel
theorem dX11_aheadOf_17 : decode cX11_aheadOf 17 = .ok (.ireturn, 1) := by decide +kernel
set_option maxRecDepth 20000 in
theorem ggX11_width_X11_many : GoodIn wsX11_width wsX11_many := goodIn_r _ [6, 7, 8, 9, 5, 10, 11, 12, 47, 48, 49, 50, 51, 52, 53, 54, 55, 56, 57, 58, 59, 60, 61, 62, 63, 64, 65, 66, 67, 68, 69, 70, 71, 72, 73, 74, 75, 76, 77, 78, 79, 80, 81, 82, 83, 84, 85, 86, 87, 88, 89, 90, 91, 92] (by decide +kernel) (by decide +kernel)
set_option maxRecDepth 20000 in
theorem gX11_width_X11_many : GoodIn wsX11_width (wsV RX11 267 RX11 yX11_many wsX11_many) := goodIn_app (goodIn_of _ (by decide +kernel)) ggX11_width_X11_many
set_option maxRecDepth 20000 in
theorem ggX11_width_X11_isIn : GoodIn wsX11_width wsX11_isIn := goodIn_r _ [15] (by decide +kernel) (by decide +kernel)
set_option maxRecDepth 20000 in
theorem gX11_width_X11_isIn : GoodIn wsX11_width (va_wsS RX11 122 yX11_isIn wsX11_isIn) := goodIn_app (goodIn_of _ (by decide +kernel)) ggX11_width_X11_isIn
set_option maxRecDepth 20000 in
theorem ggX11_width_X11_of : GoodIn wsX11_width wsX11_of := goodIn_r _ [10, 11, 12, 47, 48, 49, 50, 51, 52, 53, 54, 55, 56, 57, 58, 59, 60, 61, 62, 63, 64, 65, 66, 67, 68, 69, 70, 71, 72, 73, 74, 75, 76, 77, 78, 79, 80, 81, 82, 83, 84, 85, 86, 87, 88, 89, 90, 91, 92] (by decide +kernel) (by decide +kernel)
set_option maxRecDepth 20000 in
theorem gX11_width_X11_of : GoodIn wsX11_width (wsV RX11 234 RX11 yX11_of wsX11_of) := goodIn_app (goodIn_of _ (by decide +kernel)) ggX11_width_X11_of
set_option maxRecDepth 20000 in
theorem ggX11_width_X11_aheadOf : GoodIn wsX11_width wsX11_aheadOf := goodIn_r _ [19, 7, 8, 9, 5, 10, 11, 12, 47, 48, 49, 50, 51, 52, 53, 54, 55, 56, 57, 58, 59, 60, 61, 62, 63, 64, 65, 66, 67, 68, 69, 70, 71, 72, 73, 74, 75, 76, 77, 78, 79, 80, 81, 82, 83, 84, 85, 86, 87, 88, 89, 90, 91, 92] (by decide +kernel) (by decide +kernel)
set_option maxRecDepth 20000 in
theorem gX11_width_X11_aheadOf : GoodIn wsX11_width (wsV RX11 372 RX11 yX11_aheadOf wsX11_aheadOf) := goodIn_app (goodIn_of _ (by decide +kernel)) ggX11_width_X11_aheadOf
set_option maxRecDepth 20000 in
theorem ggX11_width_X11_apartBy : GoodIn wsX11_width wsX11_apartBy := goodIn_r _ [22, 23, 24, 25, 5, 26, 27, 28, 29, 30, 31, 32, 33, 34, 35, 36, 37, 38, 39, 40, 41, 42, 43] (by decide +kernel) (by decide +kernel)
set_option maxRecDepth 20000 in
theorem gX11_width_X11_apartBy : GoodIn wsX11_width (va_wsS RX11 375 yX11_apartBy wsX11_apartBy) := goodIn_app (goodIn_of _ (by decide +kernel)) ggX11_width_X11_apartBy
set_option maxRecDepth 20000 in
theorem ggX11_width_X11_added : GoodIn wsX11_width wsX11_added := goodIn_r _ [46, 23, 24, 25, 5, 26, 27, 28, 29, 30, 31, 32, 33, 34, 35, 36, 37, 38, 39, 40, 41, 42, 43] (by decide +kernel) (by decide +kernel)
set_option maxRecDepth 20000 in
theorem gX11_width_X11_added : GoodIn wsX11_width (va_wsS RX11 378 yX11_added wsX11_added) := goodIn_app (goodIn_of _ (by decide +kernel)) ggX11_width_X11_added
set_option maxRecDepth 20000 in
theorem ggX11_width_X11_wholeOf : GoodIn wsX11_width wsX11_wholeOf := goodIn_r _ [26, 27, 28] (by decide +kernel) (by decide +kernel)
set_option maxRecDepth 20000 in
theorem gX11_width_X11_wholeOf : GoodIn wsX11_width (va_wsS RX11 146 yX11_wholeOf wsX11_wholeOf) := goodIn_app (goodIn_of _ (by decide +kernel)) ggX11_width_X11_wholeOf
set_option maxRecDepth 20000 in
theorem ggX11_width_X11_powerOf : GoodIn wsX11_width wsX11_powerOf := goodIn_r _ [34, 28] (by decide +kernel) (by decide +kernel)
set_option maxRecDepth 20000 in
theorem gX11_width_X11_powerOf : GoodIn wsX11_width (va_wsS RX11 154 yX11_powerOf wsX11_powerOf) := goodIn_app (goodIn_of _ (by decide +kernel)) ggX11_width_X11_powerOf
set_option maxRecDepth 20000 in
theorem ggX11_width_X11_packedFloat : GoodIn wsX11_width wsX11_packedFloat := goodIn_r _ [40, 41, 42, 43] (by decide +kernel) (by decide +kernel)
set_option maxRecDepth 20000 in
theorem gX11_width_X11_packedFloat : GoodIn wsX11_width (va_wsS RX11 150 yX11_packedFloat wsX11_packedFloat) := goodIn_app (goodIn_of _ (by decide +kernel)) ggX11_width_X11_packedFloat
theorem dX11_width_0 : decode cX11_width 0 = .ok (.aload_n 0, 1) := by decide +kernel
theorem dX11_width_1 : decode cX11_width 1 = .ok (.iconst 0, 1) := by decide +kernel
theorem dX11_width_2 : decode cX11_width 2 = .ok (.putfield 77, 3) := by decide +kernel
theorem dX11_width_5 : decode cX11_width 5 = .ok (.iload_n 1, 1) := by decide +kernel
theorem dX11_width_6 : decode cX11_width 6 = .ok (.ifCond .lt 20, 3) := by decide +kernel
theorem dX11_width_9 : decode cX11_width 9 = .ok (.iload_n 1, 1) := by decide +kernel
theorem dX11_width_10 : decode cX11_width 10 = .ok (.aload_n 0, 1) := by decide +kernel
theorem dX11_width_11 : decode cX11_width 11 = .ok (.invokevirtual 267, 3) := by decide +kernel
theorem dX11_width_14 : decode cX11_width 14 = .ok (.if_icmp .ge 12, 3) := by decide +kernel
theorem dX11_width_17 : decode cX11_width 17 = .ok (.iload_n 2, 1) := by decide +kernel
theorem dX11_width_18 : decode cX11_width 18 = .ok (.iconst 0, 1) := by decide +kernel
theorem dX11_width_19 : decode cX11_width 19 = .ok (.iconst 1, 1) := by decide +kernel
theorem dX11_width_20 : decode cX11_width 20 = .ok (.invokestatic 122, 3) := by decide +kernel
theorem dX11_width_23 : decode cX11_width 23 = .ok (.ifCond .ne 5, 3) := by decide +kernel
theorem dX11_width_26 : decode cX11_width 26 = .ok (.iconst (-1), 1) := by decide +kernel
theorem dX11_width_27 : decode cX11_width 27 = .ok (.ireturn, 1) := by decide +kernel
theorem dX11_width_28 : decode cX11_width 28 = .ok (.iload_n 2, 1) := by decide +kernel
theorem dX11_width_29 : decode cX11_width 29 = .ok (.ifCond .ne 19, 3) := by decide +kernel
theorem dX11_width_32 : decode cX11_width 32 = .ok (.aload_n 0, 1) := by decide +kernel
theorem dX11_width_33 : decode cX11_width 33 = .ok (.iconst 1, 1) := by decide +kernel
theorem dX11_width_34 : decode cX11_width 34 = .ok (.iload_n 1, 1) := by decide +kernel
theorem dX11_width_35 : decode cX11_width 35 = .ok (.iadd, 1) := by decide +kernel
theorem dX11_width_36 : decode cX11_width 36 = .ok (.invokevirtual 234, 3) := by decide +kernel
theorem dX11_width_39 : decode cX11_width 39 = .ok (.aload_n 0, 1) := by decide +kernel
theorem dX11_width_40 : decode cX11_width 40 = .ok (.iload_n 1, 1) := by decide +kernel
theorem dX11_width_41 : decode cX11_width 41 = .ok (.invokevirtual 372, 3) := by decide +kernel
theorem dX11_width_44 : decode cX11_width 44 = .ok (.invokestatic 375, 3) := by decide +kernel
theorem dX11_width_47 : decode cX11_width 47 = .ok (.ireturn, 1) := by decide +kernel
theorem dX11_width_48 : decode cX11_width 48 = .ok (.aload_n 0, 1) := by decide +kernel
theorem dX11_width_49 : decode cX11_width 49 = .ok (.iconst 1, 1) := by decide +kernel
theorem dX11_width_50 : decode cX11_width 50 = .ok (.iload_n 1, 1) := by decide +kernel
theorem dX11_width_51 : decode cX11_width 51 = .ok (.iadd, 1) := by decide +kernel
theorem dX11_width_52 : decode cX11_width 52 = .ok (.invokevirtual 234, 3) := by decide +kernel
theorem dX11_width_55 : decode cX11_width 55 = .ok (.aload_n 0, 1) := by decide +kernel
theorem dX11_width_56 : decode cX11_width 56 = .ok (.iload_n 1, 1) := by decide +kernel
theorem dX11_width_57 : decode cX11_width 57 = .ok (.invokevirtual 372, 3) := by decide +kernel
theorem dX11_width_60 : decode cX11_width 60 = .ok (.invokestatic 378, 3) := by decide +kernel
theorem dX11_width_63 : decode cX11_width 63 = .ok (.istore_n 3, 1) := by decide +kernel
theorem dX11_width_64 : decode cX11_width 64 = .ok (.iload_n 3, 1) := by decide +kernel
theorem dX11_width_65 : decode cX11_width 65 = .ok (.invokestatic 146, 3) := by decide +kernel
theorem dX11_width_68 : decode cX11_width 68 = .ok (.iload_n 3, 1) := by decide +kernel
theorem dX11_width_69 : decode cX11_width 69 = .ok (.invokestatic 154, 3) := by decide +kernel
theorem dX11_width_72 : decode cX11_width 72 = .ok (.iconst 1, 1) := by decide +kernel
theorem dX11_width_73 : decode cX11_width 73 = .ok (.isub, 1) := by decide +kernel
theorem dX11_width_74 : decode cX11_width 74 = .ok (.invokestatic 150, 3) := by decide +kernel
theorem dX11_width_77 : decode cX11_width 77 = .ok (.ireturn, 1) := by decide +kernel
set_option maxRecDepth 20000 in
theorem ggX11_sumBits_X11_many : GoodIn wsX11_sumBits wsX11_many := goodIn_r _ [5, 6, 7, 8, 4, 9, 10, 11, 36, 37, 38, 39, 40, 41, 42, 43, 44, 45, 46, 47, 48, 49, 50, 51, 52, 53, 54, 55, 56, 57, 58, 59, 60, 61, 62, 63, 64, 65, 66, 67, 68, 69, 70, 71, 72, 73, 74, 75, 76, 77, 78, 79, 80, 81] (by decide +kernel) (by decide +kernel)
set_option maxRecDepth 20000 in
theorem gX11_sumBits_X11_many : GoodIn wsX11_sumBits (wsV RX11 267 RX11 yX11_many wsX11_many) := goodIn_app (goodIn_of _ (by decide +kernel)) ggX11_sumBits_X11_many
set_option maxRecDepth 20000 in
theorem ggX11_sumBits_X11_of : GoodIn wsX11_sumBits wsX11_of := goodIn_r _ [9, 10, 11, 36, 37, 38, 39, 40, 41, 42, 43, 44, 45, 46, 47, 48, 49, 50, 51, 52, 53, 54, 55, 56, 57, 58, 59, 60, 61, 62, 63, 64, 65, 66, 67, 68, 69, 70, 71, 72, 73, 74, 75, 76, 77, 78, 79, 80, 81] (by decide +kernel) (by decide +kernel)
set_option maxRecDepth 20000 in
theorem gX11_sumBits_X11_of : GoodIn wsX11_sumBits (wsV RX11 234 RX11 yX11_of wsX11_of) := goodIn_app (goodIn_of _ (by decide +kernel)) ggX11_sumBits_X11_of
set_option maxRecDepth 20000 in
theorem ggX11_sumBits_X11_added : GoodIn wsX11_sumBits wsX11_added := goodIn_r _ [14, 15, 16, 17, 4, 18, 19, 20, 21, 22, 23, 24, 25, 26, 27, 28, 29, 30, 31, 32, 33, 34, 35] (by decide +kernel) (by decide +kernel)
set_option maxRecDepth 20000 in
theorem gX11_sumBits_X11_added : GoodIn wsX11_sumBits (va_wsS RX11 378 yX11_added wsX11_added) := goodIn_app (goodIn_of _ (by decide +kernel)) ggX11_sumBits_X11_added
theorem dX11_sumBits_0 : decode cX11_sumBits 0 = .ok (.iconst 0, 1) := by decide +kernel
theorem dX11_sumBits_1 : decode cX11_sumBits 1 = .ok (.istore_n 1, 1) := by decide +kernel
theorem dX11_sumBits_2 : decode cX11_sumBits 2 = .ok (.iconst 0, 1) := by decide +kernel
theorem dX11_sumBits_3 : decode cX11_sumBits 3 = .ok (.istore_n 2, 1) := by decide +kernel
theorem dX11_sumBits_4 : decode cX11_sumBits 4 = .ok (.iload_n 2, 1) := by decide +kernel
theorem dX11_sumBits_5 : decode cX11_sumBits 5 = .ok (.aload_n 0, 1) := by decide +kernel
theorem dX11_sumBits_6 : decode cX11_sumBits 6 = .ok (.invokevirtual 267, 3) := by decide +kernel
theorem dX11_sumBits_9 : decode cX11_sumBits 9 = .ok (.if_icmp .ge 21, 3) := by decide +kernel
theorem dX11_sumBits_12 : decode cX11_sumBits 12 = .ok (.iload_n 1, 1) := by decide +kernel
theorem dX11_sumBits_13 : decode cX11_sumBits 13 = .ok (.aload_n 0, 1) := by decide +kernel
theorem dX11_sumBits_14 : decode cX11_sumBits 14 = .ok (.iconst 1, 1) := by decide +kernel
theorem dX11_sumBits_15 : decode cX11_sumBits 15 = .ok (.iload_n 2, 1) := by decide +kernel
theorem dX11_sumBits_16 : decode cX11_sumBits 16 = .ok (.iadd, 1) := by decide +kernel
theorem dX11_sumBits_17 : decode cX11_sumBits 17 = .ok (.invokevirtual 234, 3) := by decide +kernel
theorem dX11_sumBits_20 : decode cX11_sumBits 20 = .ok (.invokestatic 378, 3) := by decide +kernel
theorem dX11_sumBits_23 : decode cX11_sumBits 23 = .ok (.istore_n 1, 1) := by decide +kernel
theorem dX11_sumBits_24 : decode cX11_sumBits 24 = .ok (.iinc 2 1, 3) := by decide +kernel
theorem dX11_sumBits_27 : decode cX11_sumBits 27 = .ok (.goto (-23), 3) := by decide +kernel
theorem dX11_sumBits_30 : decode cX11_sumBits 30 = .ok (.iload_n 1, 1) := by decide +kernel
theorem dX11_sumBits_31 : decode cX11_sumBits 31 = .ok (.ireturn, 1) := by decide +kernel
set_option maxRecDepth 20000 in
theorem ggX11_sum_X11_sumBits : GoodIn wsX11_sum wsX11_sumBits := goodIn_r _ [6, 7, 8, 9, 5, 10, 11, 12, 13, 14, 15, 16, 17, 18, 19, 20, 21, 22, 23, 24, 25, 26, 27, 28, 29, 30, 31, 32, 33, 34, 35, 36, 37, 38, 39, 40, 41, 42, 43, 44, 45, 46, 47, 48, 49, 50, 51, 52, 53, 54, 55, 56, 57, 58, 59, 60, 61, 62, 63, 64, 65, 66, 67, 68, 69, 70, 71, 72, 73, 74, 75, 76, 77, 78, 79, 80, 81, 82, 83, 84, 85, 86] (by decide +kernel) (by decide +kernel)
set_option maxRecDepth 20000 in
theorem gX11_sum_X11_sumBits : GoodIn wsX11_sum (wsV RX11 381 RX11 yX11_sumBits wsX11_sumBits) := goodIn_app (goodIn_of _ (by decide +kernel)) ggX11_sum_X11_sumBits
theorem dX11_sum_0 : decode cX11_sum 0 = .ok (.aload_n 0, 1) := by decide +kernel
theorem dX11_sum_1 : decode cX11_sum 1 = .ok (.iconst 0, 1) := by decide +kernel
theorem dX11_sum_2 : decode cX11_sum 2 = .ok (.putfield 77, 3) := by decide +kernel
theorem dX11_sum_5 : decode cX11_sum 5 = .ok (.aload_n 0, 1) := by decide +kernel
theorem dX11_sum_6 : decode cX11_sum 6 = .ok (.invokevirtual 381, 3) := by decide +kernel
theorem dX11_sum_9 : decode cX11_sum 9 = .ok (.ireturn, 1) := by decide +kernel
set_option maxRecDepth 20000 in
theorem ggX11_mean_X11_many : GoodIn wsX11_mean wsX11_many := goodIn_r _ [6, 7, 8, 9, 5, 10, 11, 12, 50, 51, 52, 53, 54, 55, 56, 57, 58, 59, 60, 61, 62, 63, 64, 65, 66, 67, 68, 69, 70, 71, 72, 73, 74, 75, 76, 77, 78, 79, 80, 81, 82, 83, 84, 85, 86, 87, 88, 89, 90, 91, 92, 93, 94, 95] (by decide +kernel) (by decide +kernel)
set_option maxRecDepth 20000 in
theorem gX11_mean_X11_many : GoodIn wsX11_mean (wsV RX11 267 RX11 yX11_many wsX11_many) := goodIn_app (goodIn_of _ (by decide +kernel)) ggX11_mean_X11_many
set_option maxRecDepth 20000 in
theorem ggX11_mean_X11_sumBits : GoodIn wsX11_mean wsX11_sumBits := goodIn_r _ [16, 2, 3, 4, 5, 6, 7, 8, 9, 10, 11, 12, 17, 18, 19, 20, 21, 22, 23, 24, 25, 26, 27, 28, 29, 30, 31, 32, 33, 34, 35, 36, 37, 38, 39, 40, 50, 51, 52, 53, 54, 55, 56, 57, 58, 59, 60, 61, 62, 63, 64, 65, 66, 67, 68, 69, 70, 71, 72, 73, 74, 75, 76, 77, 78, 79, 80, 81, 82, 83, 84, 85, 86, 87, 88, 89, 90, 91, 92, 93, 94, 95] (by decide +kernel) (by decide +kernel)
set_option maxRecDepth 20000 in
theorem gX11_mean_X11_sumBits : GoodIn wsX11_mean (wsV RX11 381 RX11 yX11_sumBits wsX11_sumBits) := goodIn_app (goodIn_of _ (by decide +kernel)) ggX11_mean_X11_sumBits
set_option maxRecDepth 20000 in
theorem ggX11_mean_X11_floatOf : GoodIn wsX11_mean wsX11_floatOf := goodIn_r _ [43, 35, 36, 5, 37, 38, 39, 40] (by decide +kernel) (by decide +kernel)
set_option maxRecDepth 20000 in
theorem gX11_mean_X11_floatOf : GoodIn wsX11_mean (va_wsS RX11 170 yX11_floatOf wsX11_floatOf) := goodIn_app (goodIn_of _ (by decide +kernel)) ggX11_mean_X11_floatOf
set_option maxRecDepth 20000 in
theorem ggX11_mean_X11_divided : GoodIn wsX11_mean wsX11_divided := goodIn_r _ [46, 20, 21, 22, 5, 23, 24, 25, 47, 48, 49, 39, 29, 30, 31, 35, 36, 37, 38, 40] (by decide +kernel) (by decide +kernel)
set_option maxRecDepth 20000 in
theorem gX11_mean_X11_divided : GoodIn wsX11_mean (va_wsS RX11 173 yX11_divided wsX11_divided) := goodIn_app (goodIn_of _ (by decide +kernel)) ggX11_mean_X11_divided
theorem dX11_mean_0 : decode cX11_mean 0 = .ok (.aload_n 0, 1) := by decide +kernel
theorem dX11_mean_1 : decode cX11_mean 1 = .ok (.iconst 0, 1) := by decide +kernel
theorem dX11_mean_2 : decode cX11_mean 2 = .ok (.putfield 77, 3) := by decide +kernel
theorem dX11_mean_5 : decode cX11_mean 5 = .ok (.aload_n 0, 1) := by decide +kernel
theorem dX11_mean_6 : decode cX11_mean 6 = .ok (.invokevirtual 267, 3) := by decide +kernel
theorem dX11_mean_9 : decode cX11_mean 9 = .ok (.ifCond .ne 8, 3) := by decide +kernel
theorem dX11_mean_12 : decode cX11_mean 12 = .ok (.bipush (-2), 2) := by decide +kernel
theorem dX11_mean_14 : decode cX11_mean 14 = .ok (.goto 17, 3) := by decide +kernel
theorem dX11_mean_17 : decode cX11_mean 17 = .ok (.aload_n 0, 1) := by decide +kernel
theorem dX11_mean_18 : decode cX11_mean 18 = .ok (.invokevirtual 381, 3) := by decide +kernel
theorem dX11_mean_21 : decode cX11_mean 21 = .ok (.aload_n 0, 1) := by decide +kernel
theorem dX11_mean_22 : decode cX11_mean 22 = .ok (.invokevirtual 267, 3) := by decide +kernel
theorem dX11_mean_25 : decode cX11_mean 25 = .ok (.invokestatic 170, 3) := by decide +kernel
theorem dX11_mean_28 : decode cX11_mean 28 = .ok (.invokestatic 173, 3) := by decide +kernel
theorem dX11_mean_31 : decode cX11_mean 31 = .ok (.ireturn, 1) := by decide +kernel
set_option maxRecDepth 20000 in
theorem ggX11_ratio_X11_many : GoodIn wsX11_ratio wsX11_many := goodIn_r _ [6, 7, 8, 9, 5, 10, 11, 12, 34, 35, 36, 37, 38, 39, 40, 41, 42, 43, 44, 45, 46, 47, 48, 49, 50, 51, 52, 53, 54, 55, 56, 57, 58, 59, 60, 61, 62, 63, 64, 65, 66, 67, 68, 69, 70, 71, 72, 73, 74, 75, 76, 77, 78, 79] (by decide +kernel) (by decide +kernel)
set_option maxRecDepth 20000 in
theorem gX11_ratio_X11_many : GoodIn wsX11_ratio (wsV RX11 267 RX11 yX11_many wsX11_many) := goodIn_app (goodIn_of _ (by decide +kernel)) ggX11_ratio_X11_many
set_option maxRecDepth 20000 in
theorem ggX11_ratio_X11_of : GoodIn wsX11_ratio wsX11_of := goodIn_r _ [10, 11, 12, 34, 35, 36, 37, 38, 39, 40, 41, 42, 43, 44, 45, 46, 47, 48, 49, 50, 51, 52, 53, 54, 55, 56, 57, 58, 59, 60, 61, 62, 63, 64, 65, 66, 67, 68, 69, 70, 71, 72, 73, 74, 75, 76, 77, 78, 79] (by decide +kernel) (by decide +kernel)
set_option maxRecDepth 20000 in
theorem gX11_ratio_X11_of : GoodIn wsX11_ratio (wsV RX11 234 RX11 yX11_of wsX11_of) := goodIn_app (goodIn_of _ (by decide +kernel)) ggX11_ratio_X11_of
set_option maxRecDepth 20000 in
theorem ggX11_ratio_X11_divided : GoodIn wsX11_ratio wsX11_divided := goodIn_r _ [15, 16, 17, 18, 5, 19, 20, 21, 22, 23, 24, 25, 26, 27, 28, 29, 30, 31, 32, 33] (by decide +kernel) (by decide +kernel)
set_option maxRecDepth 20000 in
theorem gX11_ratio_X11_divided : GoodIn wsX11_ratio (va_wsS RX11 173 yX11_divided wsX11_divided) := goodIn_app (goodIn_of _ (by decide +kernel)) ggX11_ratio_X11_divided
theorem dX11_ratio_0 : decode cX11_ratio 0 = .ok (.aload_n 0, 1) := by decide +kernel
theorem dX11_ratio_1 : decode cX11_ratio 1 = .ok (.iconst 0, 1) := by decide +kernel
theorem dX11_ratio_2 : decode cX11_ratio 2 = .ok (.putfield 77, 3) := by decide +kernel
theorem dX11_ratio_5 : decode cX11_ratio 5 = .ok (.iload_n 1, 1) := by decide +kernel
theorem dX11_ratio_6 : decode cX11_ratio 6 = .ok (.ifCond .lt 23, 3) := by decide +kernel
theorem dX11_ratio_9 : decode cX11_ratio 9 = .ok (.iload_n 2, 1) := by decide +kernel
theorem dX11_ratio_10 : decode cX11_ratio 10 = .ok (.ifCond .lt 19, 3) := by decide +kernel
theorem dX11_ratio_13 : decode cX11_ratio 13 = .ok (.iload_n 1, 1) := by decide +kernel
theorem dX11_ratio_14 : decode cX11_ratio 14 = .ok (.aload_n 0, 1) := by decide +kernel
theorem dX11_ratio_15 : decode cX11_ratio 15 = .ok (.invokevirtual 267, 3) := by decide +kernel
theorem dX11_ratio_18 : decode cX11_ratio 18 = .ok (.if_icmp .ge 11, 3) := by decide +kernel
theorem dX11_ratio_21 : decode cX11_ratio 21 = .ok (.iload_n 2, 1) := by decide +kernel
theorem dX11_ratio_22 : decode cX11_ratio 22 = .ok (.aload_n 0, 1) := by decide +kernel
theorem dX11_ratio_23 : decode cX11_ratio 23 = .ok (.invokevirtual 267, 3) := by decide +kernel
theorem dX11_ratio_26 : decode cX11_ratio 26 = .ok (.if_icmp .lt 5, 3) := by decide +kernel
theorem dX11_ratio_29 : decode cX11_ratio 29 = .ok (.iconst (-1), 1) := by decide +kernel
theorem dX11_ratio_30 : decode cX11_ratio 30 = .ok (.ireturn, 1) := by decide +kernel
theorem dX11_ratio_31 : decode cX11_ratio 31 = .ok (.aload_n 0, 1) := by decide +kernel
theorem dX11_ratio_32 : decode cX11_ratio 32 = .ok (.iconst 1, 1) := by decide +kernel
theorem dX11_ratio_33 : decode cX11_ratio 33 = .ok (.iload_n 2, 1) := by decide +kernel
theorem dX11_ratio_34 : decode cX11_ratio 34 = .ok (.iadd, 1) := by decide +kernel
theorem dX11_ratio_35 : decode cX11_ratio 35 = .ok (.invokevirtual 234, 3) := by decide +kernel
theorem dX11_ratio_38 : decode cX11_ratio 38 = .ok (.ifCond .ne 8, 3) := by decide +kernel
theorem dX11_ratio_41 : decode cX11_ratio 41 = .ok (.bipush (-2), 2) := by decide +kernel
theorem dX11_ratio_43 : decode cX11_ratio 43 = .ok (.goto 20, 3) := by decide +kernel
theorem dX11_ratio_46 : decode cX11_ratio 46 = .ok (.aload_n 0, 1) := by decide +kernel
theorem dX11_ratio_47 : decode cX11_ratio 47 = .ok (.iconst 1, 1) := by decide +kernel
theorem dX11_ratio_48 : decode cX11_ratio 48 = .ok (.iload_n 1, 1) := by decide +kernel
theorem dX11_ratio_49 : decode cX11_ratio 49 = .ok (.iadd, 1) := by decide +kernel
theorem dX11_ratio_50 : decode cX11_ratio 50 = .ok (.invokevirtual 234, 3) := by decide +kernel
theorem dX11_ratio_53 : decode cX11_ratio 53 = .ok (.aload_n 0, 1) := by decide +kernel
theorem dX11_ratio_54 : decode cX11_ratio 54 = .ok (.iconst 1, 1) := by decide +kernel
theorem dX11_ratio_55 : decode cX11_ratio 55 = .ok (.iload_n 2, 1) := by decide +kernel
theorem dX11_ratio_56 : decode cX11_ratio 56 = .ok (.iadd, 1) := by decide +kernel
theorem dX11_ratio_57 : decode cX11_ratio 57 = .ok (.invokevirtual 234, 3) := by decide +kernel
theorem dX11_ratio_60 : decode cX11_ratio 60 = .ok (.invokestatic 173, 3) := by decide +kernel
theorem dX11_ratio_63 : decode cX11_ratio 63 = .ok (.ireturn, 1) := by decide +kernel
set_option maxRecDepth 20000 in
theorem ggX11_between_X11_many : GoodIn wsX11_between wsX11_many := goodIn_r _ [6, 7, 8, 9, 5, 10, 11, 12, 17, 18, 19, 20, 21, 22, 23, 24, 25, 26, 27, 28, 29, 30, 31, 32, 33, 34, 35, 36, 37, 38, 39, 40, 41, 42, 43, 44, 45, 46, 47, 48, 49, 50, 51, 52, 53, 54, 55, 56, 57, 58, 59, 60, 61, 62] (by decide +kernel) (by decide +kernel)
set_option maxRecDepth 20000 in
theorem gX11_between_X11_many : GoodIn wsX11_between (wsV RX11 267 RX11 yX11_many wsX11_many) := goodIn_app (goodIn_of _ (by decide +kernel)) ggX11_between_X11_many
set_option maxRecDepth 20000 in
theorem ggX11_between_X11_of : GoodIn wsX11_between wsX11_of := goodIn_r _ [10, 11, 12, 17, 18, 19, 20, 21, 22, 23, 24, 25, 26, 27, 28, 29, 30, 31, 32, 33, 34, 35, 36, 37, 38, 39, 40, 41, 42, 43, 44, 45, 46, 47, 48, 49, 50, 51, 52, 53, 54, 55, 56, 57, 58, 59, 60, 61, 62] (by decide +kernel) (by decide +kernel)
set_option maxRecDepth 20000 in
theorem gX11_between_X11_of : GoodIn wsX11_between (wsV RX11 234 RX11 yX11_of wsX11_of) := goodIn_app (goodIn_of _ (by decide +kernel)) ggX11_between_X11_of
set_option maxRecDepth 20000 in
theorem ggX11_between_X11_aheadOf : GoodIn wsX11_between wsX11_aheadOf := goodIn_r _ [16, 7, 8, 9, 5, 10, 11, 12, 17, 18, 19, 20, 21, 22, 23, 24, 25, 26, 27, 28, 29, 30, 31, 32, 33, 34, 35, 36, 37, 38, 39, 40, 41, 42, 43, 44, 45, 46, 47, 48, 49, 50, 51, 52, 53, 54, 55, 56, 57, 58, 59, 60, 61, 62] (by decide +kernel) (by decide +kernel)
set_option maxRecDepth 20000 in
theorem gX11_between_X11_aheadOf : GoodIn wsX11_between (wsV RX11 372 RX11 yX11_aheadOf wsX11_aheadOf) := goodIn_app (goodIn_of _ (by decide +kernel)) ggX11_between_X11_aheadOf
theorem dX11_between_0 : decode cX11_between 0 = .ok (.aload_n 0, 1) := by decide +kernel
theorem dX11_between_1 : decode cX11_between 1 = .ok (.iconst 0, 1) := by decide +kernel
theorem dX11_between_2 : decode cX11_between 2 = .ok (.putfield 77, 3) := by decide +kernel
theorem dX11_between_5 : decode cX11_between 5 = .ok (.iload_n 1, 1) := by decide +kernel
theorem dX11_between_6 : decode cX11_between 6 = .ok (.ifCond .lt 11, 3) := by decide +kernel
theorem dX11_between_9 : decode cX11_between 9 = .ok (.iload_n 1, 1) := by decide +kernel
theorem dX11_between_10 : decode cX11_between 10 = .ok (.aload_n 0, 1) := by decide +kernel
theorem dX11_between_11 : decode cX11_between 11 = .ok (.invokevirtual 267, 3) := by decide +kernel
theorem dX11_between_14 : decode cX11_between 14 = .ok (.if_icmp .lt 5, 3) := by decide +kernel
theorem dX11_between_17 : decode cX11_between 17 = .ok (.iconst (-1), 1) := by decide +kernel
theorem dX11_between_18 : decode cX11_between 18 = .ok (.ireturn, 1) := by decide +kernel
theorem dX11_between_19 : decode cX11_between 19 = .ok (.aload_n 0, 1) := by decide +kernel
theorem dX11_between_20 : decode cX11_between 20 = .ok (.iconst 1, 1) := by decide +kernel
theorem dX11_between_21 : decode cX11_between 21 = .ok (.iload_n 1, 1) := by decide +kernel
theorem dX11_between_22 : decode cX11_between 22 = .ok (.iadd, 1) := by decide +kernel
theorem dX11_between_23 : decode cX11_between 23 = .ok (.invokevirtual 234, 3) := by decide +kernel
theorem dX11_between_26 : decode cX11_between 26 = .ok (.aload_n 0, 1) := by decide +kernel
theorem dX11_between_27 : decode cX11_between 27 = .ok (.iload_n 1, 1) := by decide +kernel
theorem dX11_between_28 : decode cX11_between 28 = .ok (.invokevirtual 372, 3) := by decide +kernel
theorem dX11_between_31 : decode cX11_between 31 = .ok (.isub, 1) := by decide +kernel
theorem dX11_between_32 : decode cX11_between 32 = .ok (.iconst 1, 1) := by decide +kernel
theorem dX11_between_33 : decode cX11_between 33 = .ok (.isub, 1) := by decide +kernel
theorem dX11_between_34 : decode cX11_between 34 = .ok (.istore_n 2, 1) := by decide +kernel
theorem dX11_between_35 : decode cX11_between 35 = .ok (.iload_n 2, 1) := by decide +kernel
theorem dX11_between_36 : decode cX11_between 36 = .ok (.ifCond .ge 7, 3) := by decide +kernel
theorem dX11_between_39 : decode cX11_between 39 = .ok (.iconst 0, 1) := by decide +kernel
theorem dX11_between_40 : decode cX11_between 40 = .ok (.goto 4, 3) := by decide +kernel
theorem dX11_between_43 : decode cX11_between 43 = .ok (.iload_n 2, 1) := by decide +kernel
theorem dX11_between_44 : decode cX11_between 44 = .ok (.ireturn, 1) := by decide +kernel
set_option maxRecDepth 20000 in
theorem ggX11_widest_X11_many : GoodIn wsX11_widest wsX11_many := goodIn_r _ [6, 7, 8, 9, 5, 10, 11, 12, 41, 42, 43, 44, 45, 46, 47, 48, 49, 50, 51, 52, 53, 54, 55, 56, 57, 58, 59, 60, 61, 62, 63, 64, 65, 66, 67, 68, 69, 70, 71, 72, 73, 74, 75, 76, 77, 78, 79, 80, 81, 82, 83, 84, 85, 86] (by decide +kernel) (by decide +kernel)
set_option maxRecDepth 20000 in
theorem gX11_widest_X11_many : GoodIn wsX11_widest (wsV RX11 267 RX11 yX11_many wsX11_many) := goodIn_app (goodIn_of _ (by decide +kernel)) ggX11_widest_X11_many
set_option maxRecDepth 20000 in
theorem ggX11_widest_X11_of : GoodIn wsX11_widest wsX11_of := goodIn_r _ [10, 11, 12, 41, 42, 43, 44, 45, 46, 47, 48, 49, 50, 51, 52, 53, 54, 55, 56, 57, 58, 59, 60, 61, 62, 63, 64, 65, 66, 67, 68, 69, 70, 71, 72, 73, 74, 75, 76, 77, 78, 79, 80, 81, 82, 83, 84, 85, 86] (by decide +kernel) (by decide +kernel)
set_option maxRecDepth 20000 in
theorem gX11_widest_X11_of : GoodIn wsX11_widest (wsV RX11 234 RX11 yX11_of wsX11_of) := goodIn_app (goodIn_of _ (by decide +kernel)) ggX11_widest_X11_of
set_option maxRecDepth 20000 in
theorem ggX11_widest_X11_aheadOf : GoodIn wsX11_widest wsX11_aheadOf := goodIn_r _ [16, 7, 8, 9, 5, 10, 11, 12, 41, 42, 43, 44, 45, 46, 47, 48, 49, 50, 51, 52, 53, 54, 55, 56, 57, 58, 59, 60, 61, 62, 63, 64, 65, 66, 67, 68, 69, 70, 71, 72, 73, 74, 75, 76, 77, 78, 79, 80, 81, 82, 83, 84, 85, 86] (by decide +kernel) (by decide +kernel)
set_option maxRecDepth 20000 in
theorem gX11_widest_X11_aheadOf : GoodIn wsX11_widest (wsV RX11 372 RX11 yX11_aheadOf wsX11_aheadOf) := goodIn_app (goodIn_of _ (by decide +kernel)) ggX11_widest_X11_aheadOf
set_option maxRecDepth 20000 in
theorem ggX11_widest_X11_apartBy : GoodIn wsX11_widest wsX11_apartBy := goodIn_r _ [19, 20, 21, 22, 5, 23, 24, 25, 26, 27, 28, 29, 30, 31, 32, 33, 34, 35, 36, 37, 38, 39, 40] (by decide +kernel) (by decide +kernel)
set_option maxRecDepth 20000 in
theorem gX11_widest_X11_apartBy : GoodIn wsX11_widest (va_wsS RX11 375 yX11_apartBy wsX11_apartBy) := goodIn_app (goodIn_of _ (by decide +kernel)) ggX11_widest_X11_apartBy
theorem dX11_widest_0 : decode cX11_widest 0 = .ok (.aload_n 0, 1) := by decide +kernel
theorem dX11_widest_1 : decode cX11_widest 1 = .ok (.iconst 0, 1) := by decide +kernel
theorem dX11_widest_2 : decode cX11_widest 2 = .ok (.putfield 77, 3) := by decide +kernel
theorem dX11_widest_5 : decode cX11_widest 5 = .ok (.bipush (-2), 2) := by decide +kernel
theorem dX11_widest_7 : decode cX11_widest 7 = .ok (.istore_n 1, 1) := by decide +kernel
theorem dX11_widest_8 : decode cX11_widest 8 = .ok (.iconst 0, 1) := by decide +kernel
theorem dX11_widest_9 : decode cX11_widest 9 = .ok (.istore_n 2, 1) := by decide +kernel
theorem dX11_widest_10 : decode cX11_widest 10 = .ok (.iconst 0, 1) := by decide +kernel
theorem dX11_widest_11 : decode cX11_widest 11 = .ok (.istore_n 3, 1) := by decide +kernel
theorem dX11_widest_12 : decode cX11_widest 12 = .ok (.iload_n 3, 1) := by decide +kernel
theorem dX11_widest_13 : decode cX11_widest 13 = .ok (.aload_n 0, 1) := by decide +kernel
theorem dX11_widest_14 : decode cX11_widest 14 = .ok (.invokevirtual 267, 3) := by decide +kernel
theorem dX11_widest_17 : decode cX11_widest 17 = .ok (.if_icmp .ge 44, 3) := by decide +kernel
theorem dX11_widest_20 : decode cX11_widest 20 = .ok (.aload_n 0, 1) := by decide +kernel
theorem dX11_widest_21 : decode cX11_widest 21 = .ok (.iconst 1, 1) := by decide +kernel
theorem dX11_widest_22 : decode cX11_widest 22 = .ok (.iload_n 3, 1) := by decide +kernel
theorem dX11_widest_23 : decode cX11_widest 23 = .ok (.iadd, 1) := by decide +kernel
theorem dX11_widest_24 : decode cX11_widest 24 = .ok (.invokevirtual 234, 3) := by decide +kernel
theorem dX11_widest_27 : decode cX11_widest 27 = .ok (.aload_n 0, 1) := by decide +kernel
theorem dX11_widest_28 : decode cX11_widest 28 = .ok (.iload_n 3, 1) := by decide +kernel
theorem dX11_widest_29 : decode cX11_widest 29 = .ok (.invokevirtual 372, 3) := by decide +kernel
theorem dX11_widest_32 : decode cX11_widest 32 = .ok (.invokestatic 375, 3) := by decide +kernel
theorem dX11_widest_35 : decode cX11_widest 35 = .ok (.istore 4, 2) := by decide +kernel
theorem dX11_widest_37 : decode cX11_widest 37 = .ok (.iload_n 1, 1) := by decide +kernel
theorem dX11_widest_38 : decode cX11_widest 38 = .ok (.ifCond .lt 12, 3) := by decide +kernel
theorem dX11_widest_41 : decode cX11_widest 41 = .ok (.iload 4, 2) := by decide +kernel
theorem dX11_widest_43 : decode cX11_widest 43 = .ok (.iload_n 2, 1) := by decide +kernel
theorem dX11_widest_44 : decode cX11_widest 44 = .ok (.if_icmp .gt 6, 3) := by decide +kernel
theorem dX11_widest_47 : decode cX11_widest 47 = .ok (.goto 8, 3) := by decide +kernel
theorem dX11_widest_50 : decode cX11_widest 50 = .ok (.iload_n 3, 1) := by decide +kernel
theorem dX11_widest_51 : decode cX11_widest 51 = .ok (.istore_n 1, 1) := by decide +kernel
theorem dX11_widest_52 : decode cX11_widest 52 = .ok (.iload 4, 2) := by decide +kernel
theorem dX11_widest_54 : decode cX11_widest 54 = .ok (.istore_n 2, 1) := by decide +kernel
theorem dX11_widest_55 : decode cX11_widest 55 = .ok (.iinc 3 1, 3) := by decide +kernel
theorem dX11_widest_58 : decode cX11_widest 58 = .ok (.goto (-46), 3) := by decide +kernel
theorem dX11_widest_61 : decode cX11_widest 61 = .ok (.iload_n 1, 1) := by decide +kernel
theorem dX11_widest_62 : decode cX11_widest 62 = .ok (.ireturn, 1) := by decide +kernel
set_option maxRecDepth 20000 in
theorem ggX11_nearest_X11_isKeyTold : GoodIn wsX11_nearest wsX11_isKeyTold := goodIn_r _ [5, 6, 7, 8, 4, 9] (by decide +kernel) (by decide +kernel)
set_option maxRecDepth 20000 in
theorem gX11_nearest_X11_isKeyTold : GoodIn wsX11_nearest (va_wsS RX11 369 yX11_isKeyTold wsX11_isKeyTold) := goodIn_app (goodIn_of _ (by decide +kernel)) ggX11_nearest_X11_isKeyTold
set_option maxRecDepth 20000 in
theorem ggX11_nearest_X11_many : GoodIn wsX11_nearest wsX11_many := goodIn_r _ [13, 14, 15, 16, 4, 17, 18, 19, 56, 57, 58, 59, 60, 61, 62, 63, 64, 65, 66, 67, 68, 69, 70, 71, 72, 73, 74, 75, 76, 77, 78, 79, 80, 81, 82, 83, 84, 85, 86, 87, 88, 89, 90, 91, 92, 93, 94, 95, 96, 97, 98, 99, 100, 101] (by decide +kernel) (by decide +kernel)
set_option maxRecDepth 20000 in
theorem gX11_nearest_X11_many : GoodIn wsX11_nearest (wsV RX11 267 RX11 yX11_many wsX11_many) := goodIn_app (goodIn_of _ (by decide +kernel)) ggX11_nearest_X11_many
set_option maxRecDepth 20000 in
theorem ggX11_nearest_X11_of : GoodIn wsX11_nearest wsX11_of := goodIn_r _ [17, 18, 19, 56, 57, 58, 59, 60, 61, 62, 63, 64, 65, 66, 67, 68, 69, 70, 71, 72, 73, 74, 75, 76, 77, 78, 79, 80, 81, 82, 83, 84, 85, 86, 87, 88, 89, 90, 91, 92, 93, 94, 95, 96, 97, 98, 99, 100, 101] (by decide +kernel) (by decide +kernel)
set_option maxRecDepth 20000 in
theorem gX11_nearest_X11_of : GoodIn wsX11_nearest (wsV RX11 234 RX11 yX11_of wsX11_of) := goodIn_app (goodIn_of _ (by decide +kernel)) ggX11_nearest_X11_of
set_option maxRecDepth 20000 in
theorem ggX11_nearest_X11_keyOf : GoodIn wsX11_nearest wsX11_keyOf := goodIn_r _ [22, 23, 24, 4, 25, 26, 27, 28, 29, 30, 31, 32, 33, 34, 35, 36, 37, 38, 39, 40, 41, 42, 43, 44, 45, 46] (by decide +kernel) (by decide +kernel)
set_option maxRecDepth 20000 in
theorem gX11_nearest_X11_keyOf : GoodIn wsX11_nearest (va_wsS RX11 177 yX11_keyOf wsX11_keyOf) := goodIn_app (goodIn_of _ (by decide +kernel)) ggX11_nearest_X11_keyOf
set_option maxRecDepth 20000 in
theorem ggX11_nearest_X11_apartBy : GoodIn wsX11_nearest wsX11_apartBy := goodIn_r _ [49, 35, 36, 37, 4, 38, 39, 40, 50, 51, 52, 44, 45, 46, 53, 54, 55, 26, 27, 28, 29, 30, 31] (by decide +kernel) (by decide +kernel)
set_option maxRecDepth 20000 in
theorem gX11_nearest_X11_apartBy : GoodIn wsX11_nearest (va_wsS RX11 375 yX11_apartBy wsX11_apartBy) := goodIn_app (goodIn_of _ (by decide +kernel)) ggX11_nearest_X11_apartBy
theorem dX11_nearest_0 : decode cX11_nearest 0 = .ok (.aload_n 0, 1) := by decide +kernel
theorem dX11_nearest_1 : decode cX11_nearest 1 = .ok (.iconst 0, 1) := by decide +kernel
theorem dX11_nearest_2 : decode cX11_nearest 2 = .ok (.putfield 77, 3) := by decide +kernel
theorem dX11_nearest_5 : decode cX11_nearest 5 = .ok (.iload_n 1, 1) := by decide +kernel
theorem dX11_nearest_6 : decode cX11_nearest 6 = .ok (.iload_n 2, 1) := by decide +kernel
theorem dX11_nearest_7 : decode cX11_nearest 7 = .ok (.invokestatic 369, 3) := by decide +kernel
theorem dX11_nearest_10 : decode cX11_nearest 10 = .ok (.ifCond .ne 5, 3) := by decide +kernel
theorem dX11_nearest_13 : decode cX11_nearest 13 = .ok (.iconst (-1), 1) := by decide +kernel
theorem dX11_nearest_14 : decode cX11_nearest 14 = .ok (.ireturn, 1) := by decide +kernel
theorem dX11_nearest_15 : decode cX11_nearest 15 = .ok (.bipush (-2), 2) := by decide +kernel
theorem dX11_nearest_17 : decode cX11_nearest 17 = .ok (.istore_n 3, 1) := by decide +kernel
theorem dX11_nearest_18 : decode cX11_nearest 18 = .ok (.iconst 0, 1) := by decide +kernel
theorem dX11_nearest_19 : decode cX11_nearest 19 = .ok (.istore 4, 2) := by decide +kernel
theorem dX11_nearest_21 : decode cX11_nearest 21 = .ok (.iconst 0, 1) := by decide +kernel
theorem dX11_nearest_22 : decode cX11_nearest 22 = .ok (.istore 5, 2) := by decide +kernel
theorem dX11_nearest_24 : decode cX11_nearest 24 = .ok (.iload 5, 2) := by decide +kernel
theorem dX11_nearest_26 : decode cX11_nearest 26 = .ok (.aload_n 0, 1) := by decide +kernel
theorem dX11_nearest_27 : decode cX11_nearest 27 = .ok (.invokevirtual 267, 3) := by decide +kernel
theorem dX11_nearest_30 : decode cX11_nearest 30 = .ok (.if_icmp .ge 48, 3) := by decide +kernel
theorem dX11_nearest_33 : decode cX11_nearest 33 = .ok (.aload_n 0, 1) := by decide +kernel
theorem dX11_nearest_34 : decode cX11_nearest 34 = .ok (.iconst 1, 1) := by decide +kernel
theorem dX11_nearest_35 : decode cX11_nearest 35 = .ok (.iload 5, 2) := by decide +kernel
theorem dX11_nearest_37 : decode cX11_nearest 37 = .ok (.iadd, 1) := by decide +kernel
theorem dX11_nearest_38 : decode cX11_nearest 38 = .ok (.invokevirtual 234, 3) := by decide +kernel
theorem dX11_nearest_41 : decode cX11_nearest 41 = .ok (.iload_n 1, 1) := by decide +kernel
theorem dX11_nearest_42 : decode cX11_nearest 42 = .ok (.iload_n 2, 1) := by decide +kernel
theorem dX11_nearest_43 : decode cX11_nearest 43 = .ok (.invokestatic 177, 3) := by decide +kernel
theorem dX11_nearest_46 : decode cX11_nearest 46 = .ok (.invokestatic 375, 3) := by decide +kernel
theorem dX11_nearest_49 : decode cX11_nearest 49 = .ok (.istore 6, 2) := by decide +kernel
theorem dX11_nearest_51 : decode cX11_nearest 51 = .ok (.iload_n 3, 1) := by decide +kernel
theorem dX11_nearest_52 : decode cX11_nearest 52 = .ok (.ifCond .lt 13, 3) := by decide +kernel
theorem dX11_nearest_55 : decode cX11_nearest 55 = .ok (.iload 6, 2) := by decide +kernel
theorem dX11_nearest_57 : decode cX11_nearest 57 = .ok (.iload 4, 2) := by decide +kernel
theorem dX11_nearest_59 : decode cX11_nearest 59 = .ok (.if_icmp .lt 6, 3) := by decide +kernel
theorem dX11_nearest_62 : decode cX11_nearest 62 = .ok (.goto 10, 3) := by decide +kernel
theorem dX11_nearest_65 : decode cX11_nearest 65 = .ok (.iload 5, 2) := by decide +kernel
theorem dX11_nearest_67 : decode cX11_nearest 67 = .ok (.istore_n 3, 1) := by decide +kernel
theorem dX11_nearest_68 : decode cX11_nearest 68 = .ok (.iload 6, 2) := by decide +kernel
theorem dX11_nearest_70 : decode cX11_nearest 70 = .ok (.istore 4, 2) := by decide +kernel
theorem dX11_nearest_72 : decode cX11_nearest 72 = .ok (.iinc 5 1, 3) := by decide +kernel
theorem dX11_nearest_75 : decode cX11_nearest 75 = .ok (.goto (-51), 3) := by decide +kernel
theorem dX11_nearest_78 : decode cX11_nearest 78 = .ok (.iload_n 3, 1) := by decide +kernel
theorem dX11_nearest_79 : decode cX11_nearest 79 = .ok (.ireturn, 1) := by decide +kernel
set_option maxRecDepth 20000 in
theorem ggX11_keyLock_X11_many : GoodIn wsX11_keyLock wsX11_many := goodIn_r _ [5, 6, 7, 8, 4, 9, 10, 11, 15, 16, 17, 18, 19, 20, 21, 22, 23, 24, 25, 26, 27, 28, 29, 30, 31, 32, 33, 34, 35, 36, 37, 38, 39, 40, 41, 42, 43, 44, 45, 46, 47, 48, 49, 50, 51, 52, 53, 54, 55, 56, 57, 58, 59, 60] (by decide +kernel) (by decide +kernel)
set_option maxRecDepth 20000 in
theorem gX11_keyLock_X11_many : GoodIn wsX11_keyLock (wsV RX11 267 RX11 yX11_many wsX11_many) := goodIn_app (goodIn_of _ (by decide +kernel)) ggX11_keyLock_X11_many
set_option maxRecDepth 20000 in
theorem ggX11_keyLock_X11_of : GoodIn wsX11_keyLock wsX11_of := goodIn_r _ [9, 10, 11, 15, 16, 17, 18, 19, 20, 21, 22, 23, 24, 25, 26, 27, 28, 29, 30, 31, 32, 33, 34, 35, 36, 37, 38, 39, 40, 41, 42, 43, 44, 45, 46, 47, 48, 49, 50, 51, 52, 53, 54, 55, 56, 57, 58, 59, 60] (by decide +kernel) (by decide +kernel)
set_option maxRecDepth 20000 in
theorem gX11_keyLock_X11_of : GoodIn wsX11_keyLock (wsV RX11 234 RX11 yX11_of wsX11_of) := goodIn_app (goodIn_of _ (by decide +kernel)) ggX11_keyLock_X11_of
set_option maxRecDepth 20000 in
theorem ggX11_keyLock_X11_isOf : GoodIn wsX11_keyLock wsX11_isOf := goodIn_r _ [14] (by decide +kernel) (by decide +kernel)
set_option maxRecDepth 20000 in
theorem gX11_keyLock_X11_isOf : GoodIn wsX11_keyLock (va_wsS RX11 307 yX11_isOf wsX11_isOf) := goodIn_app (goodIn_of _ (by decide +kernel)) ggX11_keyLock_X11_isOf
theorem dX11_keyLock_0 : decode cX11_keyLock 0 = .ok (.iload_n 2, 1) := by decide +kernel
theorem dX11_keyLock_1 : decode cX11_keyLock 1 = .ok (.aload_n 0, 1) := by decide +kernel
theorem dX11_keyLock_2 : decode cX11_keyLock 2 = .ok (.invokevirtual 267, 3) := by decide +kernel
theorem dX11_keyLock_5 : decode cX11_keyLock 5 = .ok (.if_icmp .ne 7, 3) := by decide +kernel
theorem dX11_keyLock_8 : decode cX11_keyLock 8 = .ok (.iconst 0, 1) := by decide +kernel
theorem dX11_keyLock_9 : decode cX11_keyLock 9 = .ok (.goto 43, 3) := by decide +kernel
theorem dX11_keyLock_12 : decode cX11_keyLock 12 = .ok (.aload_n 0, 1) := by decide +kernel
theorem dX11_keyLock_13 : decode cX11_keyLock 13 = .ok (.sipush 146, 3) := by decide +kernel
theorem dX11_keyLock_16 : decode cX11_keyLock 16 = .ok (.iload_n 2, 1) := by decide +kernel
theorem dX11_keyLock_17 : decode cX11_keyLock 17 = .ok (.iadd, 1) := by decide +kernel
theorem dX11_keyLock_18 : decode cX11_keyLock 18 = .ok (.invokevirtual 234, 3) := by decide +kernel
theorem dX11_keyLock_21 : decode cX11_keyLock 21 = .ok (.iload_n 1, 1) := by decide +kernel
theorem dX11_keyLock_22 : decode cX11_keyLock 22 = .ok (.invokestatic 307, 3) := by decide +kernel
theorem dX11_keyLock_25 : decode cX11_keyLock 25 = .ok (.ifCond .eq 7, 3) := by decide +kernel
theorem dX11_keyLock_28 : decode cX11_keyLock 28 = .ok (.iconst 2, 1) := by decide +kernel
theorem dX11_keyLock_29 : decode cX11_keyLock 29 = .ok (.goto 23, 3) := by decide +kernel
theorem dX11_keyLock_32 : decode cX11_keyLock 32 = .ok (.aload_n 0, 1) := by decide +kernel
theorem dX11_keyLock_33 : decode cX11_keyLock 33 = .ok (.bipush 122, 2) := by decide +kernel
theorem dX11_keyLock_35 : decode cX11_keyLock 35 = .ok (.iload_n 2, 1) := by decide +kernel
theorem dX11_keyLock_36 : decode cX11_keyLock 36 = .ok (.iadd, 1) := by decide +kernel
theorem dX11_keyLock_37 : decode cX11_keyLock 37 = .ok (.invokevirtual 234, 3) := by decide +kernel
theorem dX11_keyLock_40 : decode cX11_keyLock 40 = .ok (.iload_n 1, 1) := by decide +kernel
theorem dX11_keyLock_41 : decode cX11_keyLock 41 = .ok (.invokestatic 307, 3) := by decide +kernel
theorem dX11_keyLock_44 : decode cX11_keyLock 44 = .ok (.ifCond .eq 7, 3) := by decide +kernel
theorem dX11_keyLock_47 : decode cX11_keyLock 47 = .ok (.iconst 1, 1) := by decide +kernel
theorem dX11_keyLock_48 : decode cX11_keyLock 48 = .ok (.goto 4, 3) := by decide +kernel
theorem dX11_keyLock_51 : decode cX11_keyLock 51 = .ok (.iconst 0, 1) := by decide +kernel
theorem dX11_keyLock_52 : decode cX11_keyLock 52 = .ok (.ireturn, 1) := by decide +kernel
set_option maxRecDepth 20000 in
theorem ggX11_lock_X11_isHand : GoodIn wsX11_lock wsX11_isHand := goodIn_r _ [6, 7, 28, 29, 30, 31, 32, 33, 34, 35, 36, 37, 38, 39, 40, 41, 42, 43, 44, 45, 46, 47, 48, 49, 50, 51, 52, 53, 54, 55, 56, 57, 58, 59, 60, 61, 62, 63, 64, 65, 66, 67, 68, 69, 70, 71, 72, 73] (by decide +kernel) (by decide +kernel)
set_option maxRecDepth 20000 in
theorem gX11_lock_X11_isHand : GoodIn wsX11_lock (wsV RX11 341 RX11 yX11_isHand wsX11_isHand) := goodIn_app (goodIn_of _ (by decide +kernel)) ggX11_lock_X11_isHand
set_option maxRecDepth 20000 in
theorem ggX11_lock_X11_many : GoodIn wsX11_lock wsX11_many := goodIn_r _ [11, 12, 13, 14, 5, 15, 16, 17, 28, 29, 30, 31, 32, 33, 34, 35, 36, 37, 38, 39, 40, 41, 42, 43, 44, 45, 46, 47, 48, 49, 50, 51, 52, 53, 54, 55, 56, 57, 58, 59, 60, 61, 62, 63, 64, 65, 66, 67, 68, 69, 70, 71, 72, 73] (by decide +kernel) (by decide +kernel)
set_option maxRecDepth 20000 in
theorem gX11_lock_X11_many : GoodIn wsX11_lock (wsV RX11 267 RX11 yX11_many wsX11_many) := goodIn_app (goodIn_of _ (by decide +kernel)) ggX11_lock_X11_many
set_option maxRecDepth 20000 in
theorem ggX11_lock_X11_isIn : GoodIn wsX11_lock wsX11_isIn := goodIn_r _ [20] (by decide +kernel) (by decide +kernel)
set_option maxRecDepth 20000 in
theorem gX11_lock_X11_isIn : GoodIn wsX11_lock (va_wsS RX11 122 yX11_isIn wsX11_isIn) := goodIn_app (goodIn_of _ (by decide +kernel)) ggX11_lock_X11_isIn
set_option maxRecDepth 20000 in
theorem ggX11_lock_X11_of : GoodIn wsX11_lock wsX11_of := goodIn_r _ [15, 16, 17, 28, 29, 30, 31, 32, 33, 34, 35, 36, 37, 38, 39, 40, 41, 42, 43, 44, 45, 46, 47, 48, 49, 50, 51, 52, 53, 54, 55, 56, 57, 58, 59, 60, 61, 62, 63, 64, 65, 66, 67, 68, 69, 70, 71, 72, 73] (by decide +kernel) (by decide +kernel)
set_option maxRecDepth 20000 in
theorem gX11_lock_X11_of : GoodIn wsX11_lock (wsV RX11 234 RX11 yX11_of wsX11_of) := goodIn_app (goodIn_of _ (by decide +kernel)) ggX11_lock_X11_of
set_option maxRecDepth 20000 in
theorem ggX11_lock_X11_keyLock : GoodIn wsX11_lock wsX11_keyLock := goodIn_r _ [24, 8, 9, 10, 5, 11, 12, 13, 14, 15, 16, 17, 25, 26, 27, 28, 29, 30, 31, 32, 33, 34, 35, 36, 37, 38, 39, 40, 41, 42, 43, 44, 45, 46, 47, 48, 49, 50, 51, 52, 53, 54, 55, 56, 57, 58, 59, 60, 61, 62, 63, 64, 65, 66, 67, 68, 69, 70, 71, 72, 73] (by decide +kernel) (by decide +kernel)
set_option maxRecDepth 20000 in
theorem gX11_lock_X11_keyLock : GoodIn wsX11_lock (wsV RX11 384 RX11 yX11_keyLock wsX11_keyLock) := goodIn_app (goodIn_of _ (by decide +kernel)) ggX11_lock_X11_keyLock
theorem dX11_lock_0 : decode cX11_lock 0 = .ok (.aload_n 0, 1) := by decide +kernel
theorem dX11_lock_1 : decode cX11_lock 1 = .ok (.iconst 0, 1) := by decide +kernel
theorem dX11_lock_2 : decode cX11_lock 2 = .ok (.putfield 77, 3) := by decide +kernel
theorem dX11_lock_5 : decode cX11_lock 5 = .ok (.aload_n 0, 1) := by decide +kernel
theorem dX11_lock_6 : decode cX11_lock 6 = .ok (.iload_n 1, 1) := by decide +kernel
theorem dX11_lock_7 : decode cX11_lock 7 = .ok (.invokevirtual 341, 3) := by decide +kernel
theorem dX11_lock_10 : decode cX11_lock 10 = .ok (.ifCond .eq 24, 3) := by decide +kernel
theorem dX11_lock_13 : decode cX11_lock 13 = .ok (.iload_n 2, 1) := by decide +kernel
theorem dX11_lock_14 : decode cX11_lock 14 = .ok (.ifCond .lt 20, 3) := by decide +kernel
theorem dX11_lock_17 : decode cX11_lock 17 = .ok (.iload_n 2, 1) := by decide +kernel
theorem dX11_lock_18 : decode cX11_lock 18 = .ok (.aload_n 0, 1) := by decide +kernel
theorem dX11_lock_19 : decode cX11_lock 19 = .ok (.invokevirtual 267, 3) := by decide +kernel
theorem dX11_lock_22 : decode cX11_lock 22 = .ok (.if_icmp .gt 12, 3) := by decide +kernel
theorem dX11_lock_25 : decode cX11_lock 25 = .ok (.iload_n 3, 1) := by decide +kernel
theorem dX11_lock_26 : decode cX11_lock 26 = .ok (.iconst 0, 1) := by decide +kernel
theorem dX11_lock_27 : decode cX11_lock 27 = .ok (.iconst 1, 1) := by decide +kernel
theorem dX11_lock_28 : decode cX11_lock 28 = .ok (.invokestatic 122, 3) := by decide +kernel
theorem dX11_lock_31 : decode cX11_lock 31 = .ok (.ifCond .ne 5, 3) := by decide +kernel
theorem dX11_lock_34 : decode cX11_lock 34 = .ok (.iconst (-1), 1) := by decide +kernel
theorem dX11_lock_35 : decode cX11_lock 35 = .ok (.ireturn, 1) := by decide +kernel
theorem dX11_lock_36 : decode cX11_lock 36 = .ok (.iload_n 3, 1) := by decide +kernel
theorem dX11_lock_37 : decode cX11_lock 37 = .ok (.ifCond .ne 18, 3) := by decide +kernel
theorem dX11_lock_40 : decode cX11_lock 40 = .ok (.aload_n 0, 1) := by decide +kernel
theorem dX11_lock_41 : decode cX11_lock 41 = .ok (.bipush 97, 2) := by decide +kernel
theorem dX11_lock_43 : decode cX11_lock 43 = .ok (.iload_n 2, 1) := by decide +kernel
theorem dX11_lock_44 : decode cX11_lock 44 = .ok (.iadd, 1) := by decide +kernel
theorem dX11_lock_45 : decode cX11_lock 45 = .ok (.invokevirtual 234, 3) := by decide +kernel
theorem dX11_lock_48 : decode cX11_lock 48 = .ok (.iload_n 1, 1) := by decide +kernel
theorem dX11_lock_49 : decode cX11_lock 49 = .ok (.ishr, 1) := by decide +kernel
theorem dX11_lock_50 : decode cX11_lock 50 = .ok (.iconst 1, 1) := by decide +kernel
theorem dX11_lock_51 : decode cX11_lock 51 = .ok (.iand, 1) := by decide +kernel
theorem dX11_lock_52 : decode cX11_lock 52 = .ok (.goto 9, 3) := by decide +kernel
theorem dX11_lock_55 : decode cX11_lock 55 = .ok (.aload_n 0, 1) := by decide +kernel
theorem dX11_lock_56 : decode cX11_lock 56 = .ok (.iload_n 1, 1) := by decide +kernel
theorem dX11_lock_57 : decode cX11_lock 57 = .ok (.iload_n 2, 1) := by decide +kernel
theorem dX11_lock_58 : decode cX11_lock 58 = .ok (.invokevirtual 384, 3) := by decide +kernel
theorem dX11_lock_61 : decode cX11_lock 61 = .ok (.ireturn, 1) := by decide +kernel
set_option maxRecDepth 20000 in
theorem ggX11_locksOf_X11_many : GoodIn wsX11_locksOf wsX11_many := goodIn_r _ [5, 6, 7, 8, 4, 9, 10, 11, 19, 20, 21, 22, 23, 24, 25, 26, 27, 28, 29, 30, 31, 32, 33, 34, 35, 36, 37, 38, 39, 40, 41, 42, 43, 44, 45, 46, 47, 48, 49, 50, 51, 52, 53, 54, 55, 56, 57, 58, 59, 60, 61, 62, 63, 64] (by decide +kernel) (by decide +kernel)
set_option maxRecDepth 20000 in
theorem gX11_locksOf_X11_many : GoodIn wsX11_locksOf (wsV RX11 267 RX11 yX11_many wsX11_many) := goodIn_app (goodIn_of _ (by decide +kernel)) ggX11_locksOf_X11_many
set_option maxRecDepth 20000 in
theorem ggX11_locksOf_X11_of : GoodIn wsX11_locksOf wsX11_of := goodIn_r _ [9, 10, 11, 19, 20, 21, 22, 23, 24, 25, 26, 27, 28, 29, 30, 31, 32, 33, 34, 35, 36, 37, 38, 39, 40, 41, 42, 43, 44, 45, 46, 47, 48, 49, 50, 51, 52, 53, 54, 55, 56, 57, 58, 59, 60, 61, 62, 63, 64] (by decide +kernel) (by decide +kernel)
set_option maxRecDepth 20000 in
theorem gX11_locksOf_X11_of : GoodIn wsX11_locksOf (wsV RX11 234 RX11 yX11_of wsX11_of) := goodIn_app (goodIn_of _ (by decide +kernel)) ggX11_locksOf_X11_of
set_option maxRecDepth 20000 in
theorem ggX11_locksOf_X11_keyLock : GoodIn wsX11_locksOf wsX11_keyLock := goodIn_r _ [15, 1, 2, 3, 4, 5, 6, 7, 8, 9, 10, 11, 16, 17, 18, 19, 20, 21, 22, 23, 24, 25, 26, 27, 28, 29, 30, 31, 32, 33, 34, 35, 36, 37, 38, 39, 40, 41, 42, 43, 44, 45, 46, 47, 48, 49, 50, 51, 52, 53, 54, 55, 56, 57, 58, 59, 60, 61, 62, 63, 64] (by decide +kernel) (by decide +kernel)
set_option maxRecDepth 20000 in
theorem gX11_locksOf_X11_keyLock : GoodIn wsX11_locksOf (wsV RX11 384 RX11 yX11_keyLock wsX11_keyLock) := goodIn_app (goodIn_of _ (by decide +kernel)) ggX11_locksOf_X11_keyLock
theorem dX11_locksOf_0 : decode cX11_locksOf 0 = .ok (.iconst 0, 1) := by decide +kernel
theorem dX11_locksOf_1 : decode cX11_locksOf 1 = .ok (.istore_n 2, 1) := by decide +kernel
theorem dX11_locksOf_2 : decode cX11_locksOf 2 = .ok (.iconst 0, 1) := by decide +kernel
theorem dX11_locksOf_3 : decode cX11_locksOf 3 = .ok (.istore_n 3, 1) := by decide +kernel
theorem dX11_locksOf_4 : decode cX11_locksOf 4 = .ok (.iload_n 3, 1) := by decide +kernel
theorem dX11_locksOf_5 : decode cX11_locksOf 5 = .ok (.aload_n 0, 1) := by decide +kernel
theorem dX11_locksOf_6 : decode cX11_locksOf 6 = .ok (.invokevirtual 267, 3) := by decide +kernel
theorem dX11_locksOf_9 : decode cX11_locksOf 9 = .ok (.if_icmp .gt 39, 3) := by decide +kernel
theorem dX11_locksOf_12 : decode cX11_locksOf 12 = .ok (.iload_n 2, 1) := by decide +kernel
theorem dX11_locksOf_13 : decode cX11_locksOf 13 = .ok (.aload_n 0, 1) := by decide +kernel
theorem dX11_locksOf_14 : decode cX11_locksOf 14 = .ok (.bipush 97, 2) := by decide +kernel
theorem dX11_locksOf_16 : decode cX11_locksOf 16 = .ok (.iload_n 3, 1) := by decide +kernel
theorem dX11_locksOf_17 : decode cX11_locksOf 17 = .ok (.iadd, 1) := by decide +kernel
theorem dX11_locksOf_18 : decode cX11_locksOf 18 = .ok (.invokevirtual 234, 3) := by decide +kernel
theorem dX11_locksOf_21 : decode cX11_locksOf 21 = .ok (.iload_n 1, 1) := by decide +kernel
theorem dX11_locksOf_22 : decode cX11_locksOf 22 = .ok (.ishr, 1) := by decide +kernel
theorem dX11_locksOf_23 : decode cX11_locksOf 23 = .ok (.iconst 1, 1) := by decide +kernel
theorem dX11_locksOf_24 : decode cX11_locksOf 24 = .ok (.iand, 1) := by decide +kernel
theorem dX11_locksOf_25 : decode cX11_locksOf 25 = .ok (.aload_n 0, 1) := by decide +kernel
theorem dX11_locksOf_26 : decode cX11_locksOf 26 = .ok (.iload_n 1, 1) := by decide +kernel
theorem dX11_locksOf_27 : decode cX11_locksOf 27 = .ok (.iload_n 3, 1) := by decide +kernel
theorem dX11_locksOf_28 : decode cX11_locksOf 28 = .ok (.invokevirtual 384, 3) := by decide +kernel
theorem dX11_locksOf_31 : decode cX11_locksOf 31 = .ok (.ifCond .le 7, 3) := by decide +kernel
theorem dX11_locksOf_34 : decode cX11_locksOf 34 = .ok (.iconst 1, 1) := by decide +kernel
theorem dX11_locksOf_35 : decode cX11_locksOf 35 = .ok (.goto 4, 3) := by decide +kernel
theorem dX11_locksOf_38 : decode cX11_locksOf 38 = .ok (.iconst 0, 1) := by decide +kernel
theorem dX11_locksOf_39 : decode cX11_locksOf 39 = .ok (.iadd, 1) := by decide +kernel
theorem dX11_locksOf_40 : decode cX11_locksOf 40 = .ok (.iadd, 1) := by decide +kernel
theorem dX11_locksOf_41 : decode cX11_locksOf 41 = .ok (.istore_n 2, 1) := by decide +kernel
theorem dX11_locksOf_42 : decode cX11_locksOf 42 = .ok (.iinc 3 1, 3) := by decide +kernel
theorem dX11_locksOf_45 : decode cX11_locksOf 45 = .ok (.goto (-41), 3) := by decide +kernel
theorem dX11_locksOf_48 : decode cX11_locksOf 48 = .ok (.iload_n 2, 1) := by decide +kernel
theorem dX11_locksOf_49 : decode cX11_locksOf 49 = .ok (.ireturn, 1) := by decide +kernel
set_option maxRecDepth 20000 in
theorem ggX11_changesOf_X11_of : GoodIn wsX11_changesOf wsX11_of := goodIn_r _ [7, 8, 2, 9, 10, 11, 12, 13, 14, 15, 16, 17, 18, 19, 20, 21, 22, 23, 24, 25, 26, 27, 28, 29, 30, 31, 32, 33, 34, 35, 36, 37, 38, 39, 40, 41, 42, 43, 44, 45, 46, 47, 48, 49, 50, 51, 52, 53, 54] (by decide +kernel) (by decide +kernel)
set_option maxRecDepth 20000 in
theorem gX11_changesOf_X11_of : GoodIn wsX11_changesOf (wsV RX11 234 RX11 yX11_of wsX11_of) := goodIn_app (goodIn_of _ (by decide +kernel)) ggX11_changesOf_X11_of
theorem dX11_changesOf_0 : decode cX11_changesOf 0 = .ok (.iconst 0, 1) := by decide +kernel
theorem dX11_changesOf_1 : decode cX11_changesOf 1 = .ok (.istore_n 2, 1) := by decide +kernel
theorem dX11_changesOf_2 : decode cX11_changesOf 2 = .ok (.aload_n 0, 1) := by decide +kernel
theorem dX11_changesOf_3 : decode cX11_changesOf 3 = .ok (.sipush 180, 3) := by decide +kernel
theorem dX11_changesOf_6 : decode cX11_changesOf 6 = .ok (.iload_n 1, 1) := by decide +kernel
theorem dX11_changesOf_7 : decode cX11_changesOf 7 = .ok (.iadd, 1) := by decide +kernel
theorem dX11_changesOf_8 : decode cX11_changesOf 8 = .ok (.invokevirtual 234, 3) := by decide +kernel
theorem dX11_changesOf_11 : decode cX11_changesOf 11 = .ok (.istore_n 3, 1) := by decide +kernel
theorem dX11_changesOf_12 : decode cX11_changesOf 12 = .ok (.iload_n 3, 1) := by decide +kernel
theorem dX11_changesOf_13 : decode cX11_changesOf 13 = .ok (.aload_n 0, 1) := by decide +kernel
theorem dX11_changesOf_14 : decode cX11_changesOf 14 = .ok (.sipush 227, 3) := by decide +kernel
theorem dX11_changesOf_17 : decode cX11_changesOf 17 = .ok (.invokevirtual 234, 3) := by decide +kernel
theorem dX11_changesOf_20 : decode cX11_changesOf 20 = .ok (.if_icmp .ge 48, 3) := by decide +kernel
theorem dX11_changesOf_23 : decode cX11_changesOf 23 = .ok (.aload_n 0, 1) := by decide +kernel
theorem dX11_changesOf_24 : decode cX11_changesOf 24 = .ok (.sipush 170, 3) := by decide +kernel
theorem dX11_changesOf_27 : decode cX11_changesOf 27 = .ok (.iload_n 1, 1) := by decide +kernel
theorem dX11_changesOf_28 : decode cX11_changesOf 28 = .ok (.iadd, 1) := by decide +kernel
theorem dX11_changesOf_29 : decode cX11_changesOf 29 = .ok (.invokevirtual 234, 3) := by decide +kernel
theorem dX11_changesOf_32 : decode cX11_changesOf 32 = .ok (.ifCond .le 36, 3) := by decide +kernel
theorem dX11_changesOf_35 : decode cX11_changesOf 35 = .ok (.iload_n 2, 1) := by decide +kernel
theorem dX11_changesOf_36 : decode cX11_changesOf 36 = .ok (.aload_n 0, 1) := by decide +kernel
theorem dX11_changesOf_37 : decode cX11_changesOf 37 = .ok (.getfield 47, 3) := by decide +kernel
theorem dX11_changesOf_40 : decode cX11_changesOf 40 = .ok (.sipush 600, 3) := by decide +kernel
theorem dX11_changesOf_43 : decode cX11_changesOf 43 = .ok (.aload_n 0, 1) := by decide +kernel
theorem dX11_changesOf_44 : decode cX11_changesOf 44 = .ok (.getfield 202, 3) := by decide +kernel
theorem dX11_changesOf_47 : decode cX11_changesOf 47 = .ok (.imul, 1) := by decide +kernel
theorem dX11_changesOf_48 : decode cX11_changesOf 48 = .ok (.iload_n 3, 1) := by decide +kernel
theorem dX11_changesOf_49 : decode cX11_changesOf 49 = .ok (.iadd, 1) := by decide +kernel
theorem dX11_changesOf_50 : decode cX11_changesOf 50 = .ok (.iaload, 1) := by decide +kernel
theorem dX11_changesOf_51 : decode cX11_changesOf 51 = .ok (.iload_n 1, 1) := by decide +kernel
theorem dX11_changesOf_52 : decode cX11_changesOf 52 = .ok (.if_icmp .ne 7, 3) := by decide +kernel
theorem dX11_changesOf_55 : decode cX11_changesOf 55 = .ok (.iconst 1, 1) := by decide +kernel
theorem dX11_changesOf_56 : decode cX11_changesOf 56 = .ok (.goto 4, 3) := by decide +kernel
theorem dX11_changesOf_59 : decode cX11_changesOf 59 = .ok (.iconst 0, 1) := by decide +kernel
theorem dX11_changesOf_60 : decode cX11_changesOf 60 = .ok (.iadd, 1) := by decide +kernel
theorem dX11_changesOf_61 : decode cX11_changesOf 61 = .ok (.istore_n 2, 1) := by decide +kernel
theorem dX11_changesOf_62 : decode cX11_changesOf 62 = .ok (.iinc 3 1, 3) := by decide +kernel
theorem dX11_changesOf_65 : decode cX11_changesOf 65 = .ok (.goto (-53), 3) := by decide +kernel
theorem dX11_changesOf_68 : decode cX11_changesOf 68 = .ok (.iload_n 2, 1) := by decide +kernel
theorem dX11_changesOf_69 : decode cX11_changesOf 69 = .ok (.ireturn, 1) := by decide +kernel
set_option maxRecDepth 20000 in
theorem ggX11_hand_X11_isHand : GoodIn wsX11_hand wsX11_isHand := goodIn_r _ [6, 7, 46, 47, 48, 49, 50, 51, 52, 53, 54, 55, 56, 57, 58, 59, 60, 61, 62, 63, 64, 65, 66, 67, 68, 69, 70, 71, 72, 73, 74, 75, 76, 77, 78, 79, 80, 81, 82, 83, 84, 85, 86, 87, 88, 89, 90, 91] (by decide +kernel) (by decide +kernel)
set_option maxRecDepth 20000 in
theorem gX11_hand_X11_isHand : GoodIn wsX11_hand (wsV RX11 341 RX11 yX11_isHand wsX11_isHand) := goodIn_app (goodIn_of _ (by decide +kernel)) ggX11_hand_X11_isHand
set_option maxRecDepth 20000 in
theorem ggX11_hand_X11_of : GoodIn wsX11_hand wsX11_of := goodIn_r _ [11, 12, 13, 46, 47, 48, 49, 50, 51, 52, 53, 54, 55, 56, 57, 58, 59, 60, 61, 62, 63, 64, 65, 66, 67, 68, 69, 70, 71, 72, 73, 74, 75, 76, 77, 78, 79, 80, 81, 82, 83, 84, 85, 86, 87, 88, 89, 90, 91] (by decide +kernel) (by decide +kernel)
set_option maxRecDepth 20000 in
theorem gX11_hand_X11_of : GoodIn wsX11_hand (wsV RX11 234 RX11 yX11_of wsX11_of) := goodIn_app (goodIn_of _ (by decide +kernel)) ggX11_hand_X11_of
set_option maxRecDepth 20000 in
theorem ggX11_hand_X11_stopsNow : GoodIn wsX11_hand wsX11_stopsNow := goodIn_r _ [17, 8, 9, 10, 5, 11, 12, 13, 18, 19, 20, 21, 22, 23, 24, 25, 26, 27, 28, 29, 46, 47, 48, 49, 50, 51, 52, 53, 54, 55, 56, 57, 58, 59, 60, 61, 62, 63, 64, 65, 66, 67, 68, 69, 70, 71, 72, 73, 74, 75, 76, 77, 78, 79, 80, 81, 82, 83, 84, 85, 86, 87, 88, 89, 90, 91] (by decide +kernel) (by decide +kernel)
set_option maxRecDepth 20000 in
theorem gX11_hand_X11_stopsNow : GoodIn wsX11_hand (wsV RX11 310 RX11 yX11_stopsNow wsX11_stopsNow) := goodIn_app (goodIn_of _ (by decide +kernel)) ggX11_hand_X11_stopsNow
set_option maxRecDepth 20000 in
theorem ggX11_hand_X11_locksOf : GoodIn wsX11_hand wsX11_locksOf := goodIn_r _ [33, 22, 23, 24, 5, 25, 8, 9, 10, 11, 12, 13, 34, 35, 36, 37, 38, 39, 40, 46, 47, 48, 49, 50, 51, 52, 53, 54, 55, 56, 57, 58, 59, 60, 61, 62, 63, 64, 65, 66, 67, 68, 69, 70, 71, 72, 73, 74, 75, 76, 77, 78, 79, 80, 81, 82, 83, 84, 85, 86, 87, 88, 89, 90, 91] (by decide +kernel) (by decide +kernel)
set_option maxRecDepth 20000 in
theorem gX11_hand_X11_locksOf : GoodIn wsX11_hand (wsV RX11 387 RX11 yX11_locksOf wsX11_locksOf) := goodIn_app (goodIn_of _ (by decide +kernel)) ggX11_hand_X11_locksOf
set_option maxRecDepth 20000 in
theorem ggX11_hand_X11_changesOf : GoodIn wsX11_hand wsX11_changesOf := goodIn_r _ [44, 45, 13, 8, 9, 10, 5, 11, 12, 46, 47, 48, 49, 50, 51, 52, 53, 54, 55, 56, 57, 58, 59, 60, 61, 62, 63, 64, 65, 66, 67, 68, 69, 70, 71, 72, 73, 74, 75, 76, 77, 78, 79, 80, 81, 82, 83, 84, 85, 86, 87, 88, 89, 90, 91] (by decide +kernel) (by decide +kernel)
set_option maxRecDepth 20000 in
theorem gX11_hand_X11_changesOf : GoodIn wsX11_hand (wsV RX11 390 RX11 yX11_changesOf wsX11_changesOf) := goodIn_app (goodIn_of _ (by decide +kernel)) ggX11_hand_X11_changesOf
theorem dX11_hand_0 : decode cX11_hand 0 = .ok (.aload_n 0, 1) := by decide +kernel
theorem dX11_hand_1 : decode cX11_hand 1 = .ok (.iconst 0, 1) := by decide +kernel
theorem dX11_hand_2 : decode cX11_hand 2 = .ok (.putfield 77, 3) := by decide +kernel
theorem dX11_hand_5 : decode cX11_hand 5 = .ok (.aload_n 0, 1) := by decide +kernel
theorem dX11_hand_6 : decode cX11_hand 6 = .ok (.iload_n 1, 1) := by decide +kernel
theorem dX11_hand_7 : decode cX11_hand 7 = .ok (.invokevirtual 341, 3) := by decide +kernel
theorem dX11_hand_10 : decode cX11_hand 10 = .ok (.ifCond .ne 5, 3) := by decide +kernel
theorem dX11_hand_13 : decode cX11_hand 13 = .ok (.iconst (-1), 1) := by decide +kernel
theorem dX11_hand_14 : decode cX11_hand 14 = .ok (.ireturn, 1) := by decide +kernel
theorem dX11_hand_15 : decode cX11_hand 15 = .ok (.iload_n 2, 1) := by decide +kernel
theorem dX11_hand_16 : decode cX11_hand 16 = .ok (.tableswitch 74 0 4 #[36, 46, 52, 58, 68], 36) := by decide +kernel
theorem dX11_hand_52 : decode cX11_hand 52 = .ok (.aload_n 0, 1) := by decide +kernel
theorem dX11_hand_53 : decode cX11_hand 53 = .ok (.sipush 170, 3) := by decide +kernel
theorem dX11_hand_56 : decode cX11_hand 56 = .ok (.iload_n 1, 1) := by decide +kernel
theorem dX11_hand_57 : decode cX11_hand 57 = .ok (.iadd, 1) := by decide +kernel
theorem dX11_hand_58 : decode cX11_hand 58 = .ok (.invokevirtual 234, 3) := by decide +kernel
theorem dX11_hand_61 : decode cX11_hand 61 = .ok (.ireturn, 1) := by decide +kernel
theorem dX11_hand_62 : decode cX11_hand 62 = .ok (.aload_n 0, 1) := by decide +kernel
theorem dX11_hand_63 : decode cX11_hand 63 = .ok (.iload_n 1, 1) := by decide +kernel
theorem dX11_hand_64 : decode cX11_hand 64 = .ok (.invokevirtual 310, 3) := by decide +kernel
theorem dX11_hand_67 : decode cX11_hand 67 = .ok (.ireturn, 1) := by decide +kernel
theorem dX11_hand_68 : decode cX11_hand 68 = .ok (.aload_n 0, 1) := by decide +kernel
theorem dX11_hand_69 : decode cX11_hand 69 = .ok (.iload_n 1, 1) := by decide +kernel
theorem dX11_hand_70 : decode cX11_hand 70 = .ok (.invokevirtual 387, 3) := by decide +kernel
theorem dX11_hand_73 : decode cX11_hand 73 = .ok (.ireturn, 1) := by decide +kernel
theorem dX11_hand_74 : decode cX11_hand 74 = .ok (.aload_n 0, 1) := by decide +kernel
theorem dX11_hand_75 : decode cX11_hand 75 = .ok (.sipush 175, 3) := by decide +kernel
theorem dX11_hand_78 : decode cX11_hand 78 = .ok (.iload_n 1, 1) := by decide +kernel
theorem dX11_hand_79 : decode cX11_hand 79 = .ok (.iadd, 1) := by decide +kernel
theorem dX11_hand_80 : decode cX11_hand 80 = .ok (.invokevirtual 234, 3) := by decide +kernel
theorem dX11_hand_83 : decode cX11_hand 83 = .ok (.ireturn, 1) := by decide +kernel
theorem dX11_hand_84 : decode cX11_hand 84 = .ok (.aload_n 0, 1) := by decide +kernel
theorem dX11_hand_85 : decode cX11_hand 85 = .ok (.iload_n 1, 1) := by decide +kernel
theorem dX11_hand_86 : decode cX11_hand 86 = .ok (.invokevirtual 390, 3) := by decide +kernel
theorem dX11_hand_89 : decode cX11_hand 89 = .ok (.ireturn, 1) := by decide +kernel
theorem dX11_hand_90 : decode cX11_hand 90 = .ok (.iconst (-1), 1) := by decide +kernel
theorem dX11_hand_91 : decode cX11_hand 91 = .ok (.ireturn, 1) := by decide +kernel
set_option maxRecDepth 20000 in
theorem ggX11_held_X11_isHand : GoodIn wsX11_held wsX11_isHand := goodIn_r _ [6, 7, 25, 26, 27, 28, 29, 30, 31, 32, 33, 34, 35, 36, 37, 38, 39, 40, 41, 42, 43, 44, 45, 46, 47, 48, 49, 50, 51, 52, 53, 54, 55, 56, 57, 58, 59, 60, 61, 62, 63, 64, 65, 66, 67, 68, 69, 70] (by decide +kernel) (by decide +kernel)
set_option maxRecDepth 20000 in
theorem gX11_held_X11_isHand : GoodIn wsX11_held (wsV RX11 341 RX11 yX11_isHand wsX11_isHand) := goodIn_app (goodIn_of _ (by decide +kernel)) ggX11_held_X11_isHand
set_option maxRecDepth 20000 in
theorem ggX11_held_X11_many : GoodIn wsX11_held wsX11_many := goodIn_r _ [11, 12, 13, 14, 5, 15, 16, 17, 25, 26, 27, 28, 29, 30, 31, 32, 33, 34, 35, 36, 37, 38, 39, 40, 41, 42, 43, 44, 45, 46, 47, 48, 49, 50, 51, 52, 53, 54, 55, 56, 57, 58, 59, 60, 61, 62, 63, 64, 65, 66, 67, 68, 69, 70] (by decide +kernel) (by decide +kernel)
set_option maxRecDepth 20000 in
theorem gX11_held_X11_many : GoodIn wsX11_held (wsV RX11 267 RX11 yX11_many wsX11_many) := goodIn_app (goodIn_of _ (by decide +kernel)) ggX11_held_X11_many
set_option maxRecDepth 20000 in
theorem ggX11_held_X11_of : GoodIn wsX11_held wsX11_of := goodIn_r _ [15, 16, 17, 25, 26, 27, 28, 29, 30, 31, 32, 33, 34, 35, 36, 37, 38, 39, 40, 41, 42, 43, 44, 45, 46, 47, 48, 49, 50, 51, 52, 53, 54, 55, 56, 57, 58, 59, 60, 61, 62, 63, 64, 65, 66, 67, 68, 69, 70] (by decide +kernel) (by decide +kernel)
set_option maxRecDepth 20000 in
theorem gX11_held_X11_of : GoodIn wsX11_held (wsV RX11 234 RX11 yX11_of wsX11_of) := goodIn_app (goodIn_of _ (by decide +kernel)) ggX11_held_X11_of
set_option maxRecDepth 20000 in
theorem ggX11_held_X11_isOf : GoodIn wsX11_held wsX11_isOf := goodIn_r _ [20] (by decide +kernel) (by decide +kernel)
set_option maxRecDepth 20000 in
theorem gX11_held_X11_isOf : GoodIn wsX11_held (va_wsS RX11 307 yX11_isOf wsX11_isOf) := goodIn_app (goodIn_of _ (by decide +kernel)) ggX11_held_X11_isOf
set_option maxRecDepth 20000 in
theorem ggX11_held_X11_keyLock : GoodIn wsX11_held wsX11_keyLock := goodIn_r _ [24, 8, 9, 10, 5, 11, 12, 13, 14, 15, 16, 17, 18, 19, 20, 25, 26, 27, 28, 29, 30, 31, 32, 33, 34, 35, 36, 37, 38, 39, 40, 41, 42, 43, 44, 45, 46, 47, 48, 49, 50, 51, 52, 53, 54, 55, 56, 57, 58, 59, 60, 61, 62, 63, 64, 65, 66, 67, 68, 69, 70] (by decide +kernel) (by decide +kernel)
set_option maxRecDepth 20000 in
theorem gX11_held_X11_keyLock : GoodIn wsX11_held (wsV RX11 384 RX11 yX11_keyLock wsX11_keyLock) := goodIn_app (goodIn_of _ (by decide +kernel)) ggX11_held_X11_keyLock
theorem dX11_held_0 : decode cX11_held 0 = .ok (.aload_n 0, 1) := by decide +kernel
theorem dX11_held_1 : decode cX11_held 1 = .ok (.iconst 0, 1) := by decide +kernel
theorem dX11_held_2 : decode cX11_held 2 = .ok (.putfield 77, 3) := by decide +kernel
theorem dX11_held_5 : decode cX11_held 5 = .ok (.aload_n 0, 1) := by decide +kernel
theorem dX11_held_6 : decode cX11_held 6 = .ok (.iload_n 1, 1) := by decide +kernel
theorem dX11_held_7 : decode cX11_held 7 = .ok (.invokevirtual 341, 3) := by decide +kernel
theorem dX11_held_10 : decode cX11_held 10 = .ok (.ifCond .eq 7, 3) := by decide +kernel
theorem dX11_held_13 : decode cX11_held 13 = .ok (.iload_n 2, 1) := by decide +kernel
theorem dX11_held_14 : decode cX11_held 14 = .ok (.ifCond .ge 5, 3) := by decide +kernel
theorem dX11_held_17 : decode cX11_held 17 = .ok (.iconst (-1), 1) := by decide +kernel
theorem dX11_held_18 : decode cX11_held 18 = .ok (.ireturn, 1) := by decide +kernel
theorem dX11_held_19 : decode cX11_held 19 = .ok (.iconst 0, 1) := by decide +kernel
theorem dX11_held_20 : decode cX11_held 20 = .ok (.istore_n 3, 1) := by decide +kernel
theorem dX11_held_21 : decode cX11_held 21 = .ok (.iconst 0, 1) := by decide +kernel
theorem dX11_held_22 : decode cX11_held 22 = .ok (.istore 4, 2) := by decide +kernel
theorem dX11_held_24 : decode cX11_held 24 = .ok (.iload 4, 2) := by decide +kernel
theorem dX11_held_26 : decode cX11_held 26 = .ok (.aload_n 0, 1) := by decide +kernel
theorem dX11_held_27 : decode cX11_held 27 = .ok (.invokevirtual 267, 3) := by decide +kernel
theorem dX11_held_30 : decode cX11_held 30 = .ok (.if_icmp .gt 71, 3) := by decide +kernel
theorem dX11_held_33 : decode cX11_held 33 = .ok (.aload_n 0, 1) := by decide +kernel
theorem dX11_held_34 : decode cX11_held 34 = .ok (.bipush 97, 2) := by decide +kernel
theorem dX11_held_36 : decode cX11_held 36 = .ok (.iload 4, 2) := by decide +kernel
theorem dX11_held_38 : decode cX11_held 38 = .ok (.iadd, 1) := by decide +kernel
theorem dX11_held_39 : decode cX11_held 39 = .ok (.invokevirtual 234, 3) := by decide +kernel
theorem dX11_held_42 : decode cX11_held 42 = .ok (.iload_n 1, 1) := by decide +kernel
theorem dX11_held_43 : decode cX11_held 43 = .ok (.invokestatic 307, 3) := by decide +kernel
theorem dX11_held_46 : decode cX11_held 46 = .ok (.ifCond .eq 17, 3) := by decide +kernel
theorem dX11_held_49 : decode cX11_held 49 = .ok (.iload_n 3, 1) := by decide +kernel
theorem dX11_held_50 : decode cX11_held 50 = .ok (.iload_n 2, 1) := by decide +kernel
theorem dX11_held_51 : decode cX11_held 51 = .ok (.if_icmp .ne 9, 3) := by decide +kernel
theorem dX11_held_54 : decode cX11_held 54 = .ok (.bipush 10, 2) := by decide +kernel
theorem dX11_held_56 : decode cX11_held 56 = .ok (.iload 4, 2) := by decide +kernel
theorem dX11_held_58 : decode cX11_held 58 = .ok (.imul, 1) := by decide +kernel
theorem dX11_held_59 : decode cX11_held 59 = .ok (.ireturn, 1) := by decide +kernel
theorem dX11_held_60 : decode cX11_held 60 = .ok (.iinc 3 1, 3) := by decide +kernel
theorem dX11_held_63 : decode cX11_held 63 = .ok (.aload_n 0, 1) := by decide +kernel
theorem dX11_held_64 : decode cX11_held 64 = .ok (.iload_n 1, 1) := by decide +kernel
theorem dX11_held_65 : decode cX11_held 65 = .ok (.iload 4, 2) := by decide +kernel
theorem dX11_held_67 : decode cX11_held 67 = .ok (.invokevirtual 384, 3) := by decide +kernel
theorem dX11_held_70 : decode cX11_held 70 = .ok (.ifCond .le 25, 3) := by decide +kernel
theorem dX11_held_73 : decode cX11_held 73 = .ok (.iload_n 3, 1) := by decide +kernel
theorem dX11_held_74 : decode cX11_held 74 = .ok (.iload_n 2, 1) := by decide +kernel
theorem dX11_held_75 : decode cX11_held 75 = .ok (.if_icmp .ne 17, 3) := by decide +kernel
theorem dX11_held_78 : decode cX11_held 78 = .ok (.bipush 10, 2) := by decide +kernel
theorem dX11_held_80 : decode cX11_held 80 = .ok (.iload 4, 2) := by decide +kernel
theorem dX11_held_82 : decode cX11_held 82 = .ok (.imul, 1) := by decide +kernel
theorem dX11_held_83 : decode cX11_held 83 = .ok (.aload_n 0, 1) := by decide +kernel
theorem dX11_held_84 : decode cX11_held 84 = .ok (.iload_n 1, 1) := by decide +kernel
theorem dX11_held_85 : decode cX11_held 85 = .ok (.iload 4, 2) := by decide +kernel
theorem dX11_held_87 : decode cX11_held 87 = .ok (.invokevirtual 384, 3) := by decide +kernel
theorem dX11_held_90 : decode cX11_held 90 = .ok (.iadd, 1) := by decide +kernel
theorem dX11_held_91 : decode cX11_held 91 = .ok (.ireturn, 1) := by decide +kernel
theorem dX11_held_92 : decode cX11_held 92 = .ok (.iinc 3 1, 3) := by decide +kernel
theorem dX11_held_95 : decode cX11_held 95 = .ok (.iinc 4 1, 3) := by decide +kernel
theorem dX11_held_98 : decode cX11_held 98 = .ok (.goto (-74), 3) := by decide +kernel
theorem dX11_held_101 : decode cX11_held 101 = .ok (.bipush (-2), 2) := by decide +kernel
theorem dX11_held_103 : decode cX11_held 103 = .ok (.ireturn, 1) := by decide +kernel
set_option maxRecDepth 20000 in
theorem ggX11_queue_X11_waitsAt : GoodIn wsX11_queue wsX11_waitsAt := goodIn_r _ [6, 7, 8, 9, 10, 5, 11, 12, 13, 14, 15, 16, 17, 18, 19, 20, 21, 22, 23, 24, 25, 26, 27, 28, 29, 30, 31, 32, 33, 34, 35, 36, 37, 38, 39, 40, 41, 42, 43, 44, 45, 46, 47, 48, 49, 50, 51, 52, 53, 54, 55, 56, 57, 58, 59] (by decide +kernel) (by decide +kernel)
set_option maxRecDepth 20000 in
theorem gX11_queue_X11_waitsAt : GoodIn wsX11_queue (wsV RX11 335 RX11 yX11_waitsAt wsX11_waitsAt) := goodIn_app (goodIn_of _ (by decide +kernel)) ggX11_queue_X11_waitsAt
theorem dX11_queue_0 : decode cX11_queue 0 = .ok (.aload_n 0, 1) := by decide +kernel
theorem dX11_queue_1 : decode cX11_queue 1 = .ok (.iconst 0, 1) := by decide +kernel
theorem dX11_queue_2 : decode cX11_queue 2 = .ok (.putfield 77, 3) := by decide +kernel
theorem dX11_queue_5 : decode cX11_queue 5 = .ok (.iload_n 1, 1) := by decide +kernel
theorem dX11_queue_6 : decode cX11_queue 6 = .ok (.ifCond .ge 5, 3) := by decide +kernel
theorem dX11_queue_9 : decode cX11_queue 9 = .ok (.iconst (-1), 1) := by decide +kernel
theorem dX11_queue_10 : decode cX11_queue 10 = .ok (.ireturn, 1) := by decide +kernel
theorem dX11_queue_11 : decode cX11_queue 11 = .ok (.aload_n 0, 1) := by decide +kernel
theorem dX11_queue_12 : decode cX11_queue 12 = .ok (.iload_n 1, 1) := by decide +kernel
theorem dX11_queue_13 : decode cX11_queue 13 = .ok (.invokevirtual 335, 3) := by decide +kernel
theorem dX11_queue_16 : decode cX11_queue 16 = .ok (.istore_n 2, 1) := by decide +kernel
theorem dX11_queue_17 : decode cX11_queue 17 = .ok (.iload_n 2, 1) := by decide +kernel
theorem dX11_queue_18 : decode cX11_queue 18 = .ok (.ifCond .ge 8, 3) := by decide +kernel
theorem dX11_queue_21 : decode cX11_queue 21 = .ok (.bipush (-2), 2) := by decide +kernel
theorem dX11_queue_23 : decode cX11_queue 23 = .ok (.goto 4, 3) := by decide +kernel
theorem dX11_queue_26 : decode cX11_queue 26 = .ok (.iload_n 2, 1) := by decide +kernel
theorem dX11_queue_27 : decode cX11_queue 27 = .ok (.ireturn, 1) := by decide +kernel
set_option maxRecDepth 20000 in
theorem ggX11_stops_X11_isHand : GoodIn wsX11_stops wsX11_isHand := goodIn_r _ [6, 7, 60, 61, 62, 63, 64, 65, 66, 67, 68, 69, 70, 71, 72, 73, 74, 75, 76, 77, 78, 79, 80, 81, 82, 83, 84, 85, 86, 87, 88, 89, 90, 91, 92, 93, 94, 95, 96, 97, 98, 99, 100, 101, 102, 103, 104, 105] (by decide +kernel) (by decide +kernel)
set_option maxRecDepth 20000 in
theorem gX11_stops_X11_isHand : GoodIn wsX11_stops (wsV RX11 341 RX11 yX11_isHand wsX11_isHand) := goodIn_app (goodIn_of _ (by decide +kernel)) ggX11_stops_X11_isHand
set_option maxRecDepth 20000 in
theorem ggX11_stops_X11_isKeyTold : GoodIn wsX11_stops wsX11_isKeyTold := goodIn_r _ [10, 11, 12, 13, 5, 14] (by decide +kernel) (by decide +kernel)
set_option maxRecDepth 20000 in
theorem gX11_stops_X11_isKeyTold : GoodIn wsX11_stops (va_wsS RX11 369 yX11_isKeyTold wsX11_isKeyTold) := goodIn_app (goodIn_of _ (by decide +kernel)) ggX11_stops_X11_isKeyTold
set_option maxRecDepth 20000 in
theorem ggX11_stops_X11_isIn : GoodIn wsX11_stops wsX11_isIn := goodIn_r _ [14] (by decide +kernel) (by decide +kernel)
set_option maxRecDepth 20000 in
theorem gX11_stops_X11_isIn : GoodIn wsX11_stops (va_wsS RX11 122 yX11_isIn wsX11_isIn) := goodIn_app (goodIn_of _ (by decide +kernel)) ggX11_stops_X11_isIn
set_option maxRecDepth 20000 in
theorem ggX11_stops_X11_keyOf : GoodIn wsX11_stops wsX11_keyOf := goodIn_r _ [17, 18, 19, 5, 20, 21, 22, 23, 24, 25, 26, 27, 28, 29, 30, 31, 32, 33, 34, 35, 36, 37, 38, 39, 40, 41] (by decide +kernel) (by decide +kernel)
set_option maxRecDepth 20000 in
theorem gX11_stops_X11_keyOf : GoodIn wsX11_stops (va_wsS RX11 177 yX11_keyOf wsX11_keyOf) := goodIn_app (goodIn_of _ (by decide +kernel)) ggX11_stops_X11_keyOf
set_option maxRecDepth 20000 in
theorem ggX11_stops_X11_placeOf : GoodIn wsX11_stops wsX11_placeOf := goodIn_r _ [45, 46, 47, 48, 5, 49, 50, 51, 52, 53, 54, 55, 60, 61, 62, 63, 64, 65, 66, 67, 68, 69, 70, 71, 72, 73, 74, 75, 76, 77, 78, 79, 80, 81, 82, 83, 84, 85, 86, 87, 88, 89, 90, 91, 92, 93, 94, 95, 96, 97, 98, 99, 100, 101, 102, 103, 104, 105] (by decide +kernel) (by decide +kernel)
set_option maxRecDepth 20000 in
theorem gX11_stops_X11_placeOf : GoodIn wsX11_stops (wsV RX11 254 RX11 yX11_placeOf wsX11_placeOf) := goodIn_app (goodIn_of _ (by decide +kernel)) ggX11_stops_X11_placeOf
set_option maxRecDepth 20000 in
theorem ggX11_stops_X11_isThere : GoodIn wsX11_stops wsX11_isThere := goodIn_r _ [59, 46, 47, 48, 5, 49, 50, 51, 52, 53, 54, 55, 60, 61, 62, 63, 64, 65, 66, 67, 68, 69, 70, 71, 72, 73, 74, 75, 76, 77, 78, 79, 80, 81, 82, 83, 84, 85, 86, 87, 88, 89, 90, 91, 92, 93, 94, 95, 96, 97, 98, 99, 100, 101, 102, 103, 104, 105] (by decide +kernel) (by decide +kernel)
set_option maxRecDepth 20000 in
theorem gX11_stops_X11_isThere : GoodIn wsX11_stops (wsV RX11 287 RX11 yX11_isThere wsX11_isThere) := goodIn_app (goodIn_of _ (by decide +kernel)) ggX11_stops_X11_isThere
set_option maxRecDepth 20000 in
theorem ggX11_stops_X11_of : GoodIn wsX11_stops wsX11_of := goodIn_r _ [53, 54, 55, 60, 61, 62, 63, 64, 65, 66, 67, 68, 69, 70, 71, 72, 73, 74, 75, 76, 77, 78, 79, 80, 81, 82, 83, 84, 85, 86, 87, 88, 89, 90, 91, 92, 93, 94, 95, 96, 97, 98, 99, 100, 101, 102, 103, 104, 105] (by decide +kernel) (by decide +kernel)
set_option maxRecDepth 20000 in
theorem gX11_stops_X11_of : GoodIn wsX11_stops (wsV RX11 234 RX11 yX11_of wsX11_of) := goodIn_app (goodIn_of _ (by decide +kernel)) ggX11_stops_X11_of
theorem dX11_stops_0 : decode cX11_stops 0 = .ok (.aload_n 0, 1) := by decide +kernel
theorem dX11_stops_1 : decode cX11_stops 1 = .ok (.iconst 0, 1) := by decide +kernel
theorem dX11_stops_2 : decode cX11_stops 2 = .ok (.putfield 77, 3) := by decide +kernel
theorem dX11_stops_5 : decode cX11_stops 5 = .ok (.aload_n 0, 1) := by decide +kernel
theorem dX11_stops_6 : decode cX11_stops 6 = .ok (.iload_n 1, 1) := by decide +kernel
theorem dX11_stops_7 : decode cX11_stops 7 = .ok (.invokevirtual 341, 3) := by decide +kernel
theorem dX11_stops_10 : decode cX11_stops 10 = .ok (.ifCond .eq 21, 3) := by decide +kernel
theorem dX11_stops_13 : decode cX11_stops 13 = .ok (.iload_n 2, 1) := by decide +kernel
theorem dX11_stops_14 : decode cX11_stops 14 = .ok (.iload_n 3, 1) := by decide +kernel
theorem dX11_stops_15 : decode cX11_stops 15 = .ok (.invokestatic 369, 3) := by decide +kernel
theorem dX11_stops_18 : decode cX11_stops 18 = .ok (.ifCond .eq 13, 3) := by decide +kernel
theorem dX11_stops_21 : decode cX11_stops 21 = .ok (.iload 4, 2) := by decide +kernel
theorem dX11_stops_23 : decode cX11_stops 23 = .ok (.iconst 0, 1) := by decide +kernel
theorem dX11_stops_24 : decode cX11_stops 24 = .ok (.iconst 2, 1) := by decide +kernel
theorem dX11_stops_25 : decode cX11_stops 25 = .ok (.invokestatic 122, 3) := by decide +kernel
theorem dX11_stops_28 : decode cX11_stops 28 = .ok (.ifCond .ne 5, 3) := by decide +kernel
theorem dX11_stops_31 : decode cX11_stops 31 = .ok (.iconst (-1), 1) := by decide +kernel
theorem dX11_stops_32 : decode cX11_stops 32 = .ok (.ireturn, 1) := by decide +kernel
theorem dX11_stops_33 : decode cX11_stops 33 = .ok (.iload_n 2, 1) := by decide +kernel
theorem dX11_stops_34 : decode cX11_stops 34 = .ok (.iload_n 3, 1) := by decide +kernel
theorem dX11_stops_35 : decode cX11_stops 35 = .ok (.invokestatic 177, 3) := by decide +kernel
theorem dX11_stops_38 : decode cX11_stops 38 = .ok (.istore 5, 2) := by decide +kernel
theorem dX11_stops_40 : decode cX11_stops 40 = .ok (.aload_n 0, 1) := by decide +kernel
theorem dX11_stops_41 : decode cX11_stops 41 = .ok (.iload 5, 2) := by decide +kernel
theorem dX11_stops_43 : decode cX11_stops 43 = .ok (.invokevirtual 254, 3) := by decide +kernel
theorem dX11_stops_46 : decode cX11_stops 46 = .ok (.istore 6, 2) := by decide +kernel
theorem dX11_stops_48 : decode cX11_stops 48 = .ok (.iconst 1, 1) := by decide +kernel
theorem dX11_stops_49 : decode cX11_stops 49 = .ok (.iload_n 1, 1) := by decide +kernel
theorem dX11_stops_50 : decode cX11_stops 50 = .ok (.ishl, 1) := by decide +kernel
theorem dX11_stops_51 : decode cX11_stops 51 = .ok (.iconst (-1), 1) := by decide +kernel
theorem dX11_stops_52 : decode cX11_stops 52 = .ok (.ixor, 1) := by decide +kernel
theorem dX11_stops_53 : decode cX11_stops 53 = .ok (.istore 7, 2) := by decide +kernel
theorem dX11_stops_55 : decode cX11_stops 55 = .ok (.aload_n 0, 1) := by decide +kernel
theorem dX11_stops_56 : decode cX11_stops 56 = .ok (.iload 6, 2) := by decide +kernel
theorem dX11_stops_58 : decode cX11_stops 58 = .ok (.iload 5, 2) := by decide +kernel
theorem dX11_stops_60 : decode cX11_stops 60 = .ok (.invokevirtual 287, 3) := by decide +kernel
theorem dX11_stops_63 : decode cX11_stops 63 = .ok (.ifCond .ne 26, 3) := by decide +kernel
theorem dX11_stops_66 : decode cX11_stops 66 = .ok (.iload 4, 2) := by decide +kernel
theorem dX11_stops_68 : decode cX11_stops 68 = .ok (.iconst 2, 1) := by decide +kernel
theorem dX11_stops_69 : decode cX11_stops 69 = .ok (.if_icmp .ne 18, 3) := by decide +kernel
theorem dX11_stops_72 : decode cX11_stops 72 = .ok (.aload_n 0, 1) := by decide +kernel
theorem dX11_stops_73 : decode cX11_stops 73 = .ok (.bipush 97, 2) := by decide +kernel
theorem dX11_stops_75 : decode cX11_stops 75 = .ok (.iload 6, 2) := by decide +kernel
theorem dX11_stops_77 : decode cX11_stops 77 = .ok (.iadd, 1) := by decide +kernel
theorem dX11_stops_78 : decode cX11_stops 78 = .ok (.invokevirtual 234, 3) := by decide +kernel
theorem dX11_stops_81 : decode cX11_stops 81 = .ok (.iload 7, 2) := by decide +kernel
theorem dX11_stops_83 : decode cX11_stops 83 = .ok (.iand, 1) := by decide +kernel
theorem dX11_stops_84 : decode cX11_stops 84 = .ok (.goto 4, 3) := by decide +kernel
theorem dX11_stops_87 : decode cX11_stops 87 = .ok (.iconst 0, 1) := by decide +kernel
theorem dX11_stops_88 : decode cX11_stops 88 = .ok (.ireturn, 1) := by decide +kernel
theorem dX11_stops_89 : decode cX11_stops 89 = .ok (.iload 4, 2) := by decide +kernel
theorem dX11_stops_91 : decode cX11_stops 91 = .ok (.iconst 1, 1) := by decide +kernel
theorem dX11_stops_92 : decode cX11_stops 92 = .ok (.if_icmp .ne 27, 3) := by decide +kernel
theorem dX11_stops_95 : decode cX11_stops 95 = .ok (.aload_n 0, 1) := by decide +kernel
theorem dX11_stops_96 : decode cX11_stops 96 = .ok (.bipush 122, 2) := by decide +kernel
theorem dX11_stops_98 : decode cX11_stops 98 = .ok (.iload 6, 2) := by decide +kernel
theorem dX11_stops_100 : decode cX11_stops 100 = .ok (.iadd, 1) := by decide +kernel
theorem dX11_stops_101 : decode cX11_stops 101 = .ok (.invokevirtual 234, 3) := by decide +kernel
theorem dX11_stops_104 : decode cX11_stops 104 = .ok (.aload_n 0, 1) := by decide +kernel
theorem dX11_stops_105 : decode cX11_stops 105 = .ok (.sipush 146, 3) := by decide +kernel
theorem dX11_stops_108 : decode cX11_stops 108 = .ok (.iload 6, 2) := by decide +kernel
theorem dX11_stops_110 : decode cX11_stops 110 = .ok (.iadd, 1) := by decide +kernel
theorem dX11_stops_111 : decode cX11_stops 111 = .ok (.invokevirtual 234, 3) := by decide +kernel
theorem dX11_stops_114 : decode cX11_stops 114 = .ok (.ior, 1) := by decide +kernel
theorem dX11_stops_115 : decode cX11_stops 115 = .ok (.iload 7, 2) := by decide +kernel
theorem dX11_stops_117 : decode cX11_stops 117 = .ok (.iand, 1) := by decide +kernel
theorem dX11_stops_118 : decode cX11_stops 118 = .ok (.ireturn, 1) := by decide +kernel
theorem dX11_stops_119 : decode cX11_stops 119 = .ok (.iload 4, 2) := by decide +kernel
theorem dX11_stops_121 : decode cX11_stops 121 = .ok (.iconst 2, 1) := by decide +kernel
theorem dX11_stops_122 : decode cX11_stops 122 = .ok (.if_icmp .ne 20, 3) := by decide +kernel
theorem dX11_stops_125 : decode cX11_stops 125 = .ok (.aload_n 0, 1) := by decide +kernel
theorem dX11_stops_126 : decode cX11_stops 126 = .ok (.bipush 49, 2) := by decide +kernel
theorem dX11_stops_128 : decode cX11_stops 128 = .ok (.iload 6, 2) := by decide +kernel
theorem dX11_stops_130 : decode cX11_stops 130 = .ok (.iadd, 1) := by decide +kernel
theorem dX11_stops_131 : decode cX11_stops 131 = .ok (.invokevirtual 234, 3) := by decide +kernel
theorem dX11_stops_134 : decode cX11_stops 134 = .ok (.iload_n 1, 1) := by decide +kernel
theorem dX11_stops_135 : decode cX11_stops 135 = .ok (.if_icmp .ne 7, 3) := by decide +kernel
theorem dX11_stops_138 : decode cX11_stops 138 = .ok (.iconst 0, 1) := by decide +kernel
theorem dX11_stops_139 : decode cX11_stops 139 = .ok (.goto 16, 3) := by decide +kernel
theorem dX11_stops_142 : decode cX11_stops 142 = .ok (.aload_n 0, 1) := by decide +kernel
theorem dX11_stops_143 : decode cX11_stops 143 = .ok (.sipush 146, 3) := by decide +kernel
theorem dX11_stops_146 : decode cX11_stops 146 = .ok (.iload 6, 2) := by decide +kernel
theorem dX11_stops_148 : decode cX11_stops 148 = .ok (.iadd, 1) := by decide +kernel
theorem dX11_stops_149 : decode cX11_stops 149 = .ok (.invokevirtual 234, 3) := by decide +kernel
theorem dX11_stops_152 : decode cX11_stops 152 = .ok (.iload 7, 2) := by decide +kernel
theorem dX11_stops_154 : decode cX11_stops 154 = .ok (.iand, 1) := by decide +kernel
theorem dX11_stops_155 : decode cX11_stops 155 = .ok (.ireturn, 1) := by decide +kernel
set_option maxRecDepth 20000 in
theorem ggX11_ring_X11_isHand : GoodIn wsX11_ring wsX11_isHand := goodIn_r _ [6, 7, 37, 38, 39, 40, 41, 42, 43, 44, 45, 46, 47, 48, 49, 50, 51, 52, 53, 54, 55, 56, 57, 58, 59, 60, 61, 62, 63, 64, 65, 66, 67, 68, 69, 70, 71, 72, 73, 74, 75, 76, 77, 78, 79, 80, 81, 82] (by decide +kernel) (by decide +kernel)
set_option maxRecDepth 20000 in
theorem gX11_ring_X11_isHand : GoodIn wsX11_ring (wsV RX11 341 RX11 yX11_isHand wsX11_isHand) := goodIn_app (goodIn_of _ (by decide +kernel)) ggX11_ring_X11_isHand
set_option maxRecDepth 20000 in
theorem ggX11_ring_X11_of : GoodIn wsX11_ring wsX11_of := goodIn_r _ [11, 12, 13, 37, 38, 39, 40, 41, 42, 43, 44, 45, 46, 47, 48, 49, 50, 51, 52, 53, 54, 55, 56, 57, 58, 59, 60, 61, 62, 63, 64, 65, 66, 67, 68, 69, 70, 71, 72, 73, 74, 75, 76, 77, 78, 79, 80, 81, 82] (by decide +kernel) (by decide +kernel)
set_option maxRecDepth 20000 in
theorem gX11_ring_X11_of : GoodIn wsX11_ring (wsV RX11 234 RX11 yX11_of wsX11_of) := goodIn_app (goodIn_of _ (by decide +kernel)) ggX11_ring_X11_of
set_option maxRecDepth 20000 in
theorem ggX11_ring_X11_isRing : GoodIn wsX11_ring wsX11_isRing := goodIn_r _ [17, 7, 18, 19, 5, 20, 21, 22, 23, 24, 8, 9, 10, 11, 12, 13, 25, 26, 27, 28, 29, 30, 31, 32, 33, 34, 35, 36, 37, 38, 39, 40, 41, 42, 43, 44, 45, 46, 47, 48, 49, 50, 51, 52, 53, 54, 55, 56, 57, 58, 59, 60, 61, 62, 63, 64, 65, 66, 67, 68, 69, 70, 71, 72, 73, 74, 75, 76, 77, 78, 79, 80, 81, 82] (by decide +kernel) (by decide +kernel)
set_option maxRecDepth 20000 in
theorem gX11_ring_X11_isRing : GoodIn wsX11_ring (wsV RX11 326 RX11 yX11_isRing wsX11_isRing) := goodIn_app (goodIn_of _ (by decide +kernel)) ggX11_ring_X11_isRing
theorem dX11_ring_0 : decode cX11_ring 0 = .ok (.aload_n 0, 1) := by decide +kernel
theorem dX11_ring_1 : decode cX11_ring 1 = .ok (.iconst 0, 1) := by decide +kernel
theorem dX11_ring_2 : decode cX11_ring 2 = .ok (.putfield 77, 3) := by decide +kernel
theorem dX11_ring_5 : decode cX11_ring 5 = .ok (.aload_n 0, 1) := by decide +kernel
theorem dX11_ring_6 : decode cX11_ring 6 = .ok (.iload_n 1, 1) := by decide +kernel
theorem dX11_ring_7 : decode cX11_ring 7 = .ok (.invokevirtual 341, 3) := by decide +kernel
theorem dX11_ring_10 : decode cX11_ring 10 = .ok (.ifCond .eq 29, 3) := by decide +kernel
theorem dX11_ring_13 : decode cX11_ring 13 = .ok (.aload_n 0, 1) := by decide +kernel
theorem dX11_ring_14 : decode cX11_ring 14 = .ok (.iload_n 2, 1) := by decide +kernel
theorem dX11_ring_15 : decode cX11_ring 15 = .ok (.invokevirtual 341, 3) := by decide +kernel
theorem dX11_ring_18 : decode cX11_ring 18 = .ok (.ifCond .eq 21, 3) := by decide +kernel
theorem dX11_ring_21 : decode cX11_ring 21 = .ok (.iload_n 1, 1) := by decide +kernel
theorem dX11_ring_22 : decode cX11_ring 22 = .ok (.iload_n 2, 1) := by decide +kernel
theorem dX11_ring_23 : decode cX11_ring 23 = .ok (.if_icmp .eq 16, 3) := by decide +kernel
theorem dX11_ring_26 : decode cX11_ring 26 = .ok (.aload_n 0, 1) := by decide +kernel
theorem dX11_ring_27 : decode cX11_ring 27 = .ok (.sipush 170, 3) := by decide +kernel
theorem dX11_ring_30 : decode cX11_ring 30 = .ok (.iload_n 1, 1) := by decide +kernel
theorem dX11_ring_31 : decode cX11_ring 31 = .ok (.iadd, 1) := by decide +kernel
theorem dX11_ring_32 : decode cX11_ring 32 = .ok (.invokevirtual 234, 3) := by decide +kernel
theorem dX11_ring_35 : decode cX11_ring 35 = .ok (.iconst 1, 1) := by decide +kernel
theorem dX11_ring_36 : decode cX11_ring 36 = .ok (.if_icmp .eq 5, 3) := by decide +kernel
theorem dX11_ring_39 : decode cX11_ring 39 = .ok (.iconst (-1), 1) := by decide +kernel
theorem dX11_ring_40 : decode cX11_ring 40 = .ok (.ireturn, 1) := by decide +kernel
theorem dX11_ring_41 : decode cX11_ring 41 = .ok (.aload_n 0, 1) := by decide +kernel
theorem dX11_ring_42 : decode cX11_ring 42 = .ok (.iconst 1, 1) := by decide +kernel
theorem dX11_ring_43 : decode cX11_ring 43 = .ok (.iload_n 2, 1) := by decide +kernel
theorem dX11_ring_44 : decode cX11_ring 44 = .ok (.ishl, 1) := by decide +kernel
theorem dX11_ring_45 : decode cX11_ring 45 = .ok (.iload_n 1, 1) := by decide +kernel
theorem dX11_ring_46 : decode cX11_ring 46 = .ok (.invokevirtual 326, 3) := by decide +kernel
theorem dX11_ring_49 : decode cX11_ring 49 = .ok (.ifCond .eq 7, 3) := by decide +kernel
theorem dX11_ring_52 : decode cX11_ring 52 = .ok (.iconst 1, 1) := by decide +kernel
theorem dX11_ring_53 : decode cX11_ring 53 = .ok (.goto 4, 3) := by decide +kernel
theorem dX11_ring_56 : decode cX11_ring 56 = .ok (.iconst 0, 1) := by decide +kernel
theorem dX11_ring_57 : decode cX11_ring 57 = .ok (.ireturn, 1) := by decide +kernel
set_option maxRecDepth 20000 in
theorem ggX11_free_X11_many : GoodIn wsX11_free wsX11_many := goodIn_r _ [6, 7, 8, 9, 5, 10, 11, 12, 13, 14, 15, 16, 17, 18, 19, 20, 21, 22, 23, 24, 25, 26, 27, 28, 29, 30, 31, 32, 33, 34, 35, 36, 37, 38, 39, 40, 41, 42, 43, 44, 45, 46, 47, 48, 49, 50, 51, 52, 53, 54, 55, 56, 57, 58] (by decide +kernel) (by decide +kernel)
set_option maxRecDepth 20000 in
theorem gX11_free_X11_many : GoodIn wsX11_free (wsV RX11 267 RX11 yX11_many wsX11_many) := goodIn_app (goodIn_of _ (by decide +kernel)) ggX11_free_X11_many
set_option maxRecDepth 20000 in
theorem ggX11_free_X11_of : GoodIn wsX11_free wsX11_of := goodIn_r _ [10, 11, 12, 13, 14, 15, 16, 17, 18, 19, 20, 21, 22, 23, 24, 25, 26, 27, 28, 29, 30, 31, 32, 33, 34, 35, 36, 37, 38, 39, 40, 41, 42, 43, 44, 45, 46, 47, 48, 49, 50, 51, 52, 53, 54, 55, 56, 57, 58] (by decide +kernel) (by decide +kernel)
set_option maxRecDepth 20000 in
theorem gX11_free_X11_of : GoodIn wsX11_free (wsV RX11 234 RX11 yX11_of wsX11_of) := goodIn_app (goodIn_of _ (by decide +kernel)) ggX11_free_X11_of
theorem dX11_free_0 : decode cX11_free 0 = .ok (.aload_n 0, 1) := by decide +kernel
theorem dX11_free_1 : decode cX11_free 1 = .ok (.iconst 0, 1) := by decide +kernel
theorem dX11_free_2 : decode cX11_free 2 = .ok (.putfield 77, 3) := by decide +kernel
theorem dX11_free_5 : decode cX11_free 5 = .ok (.iconst 0, 1) := by decide +kernel
theorem dX11_free_6 : decode cX11_free 6 = .ok (.istore_n 1, 1) := by decide +kernel
theorem dX11_free_7 : decode cX11_free 7 = .ok (.iconst 0, 1) := by decide +kernel
theorem dX11_free_8 : decode cX11_free 8 = .ok (.istore_n 2, 1) := by decide +kernel
theorem dX11_free_9 : decode cX11_free 9 = .ok (.iload_n 2, 1) := by decide +kernel
theorem dX11_free_10 : decode cX11_free 10 = .ok (.aload_n 0, 1) := by decide +kernel
theorem dX11_free_11 : decode cX11_free 11 = .ok (.invokevirtual 267, 3) := by decide +kernel
theorem dX11_free_14 : decode cX11_free 14 = .ok (.if_icmp .gt 30, 3) := by decide +kernel
theorem dX11_free_17 : decode cX11_free 17 = .ok (.iload_n 1, 1) := by decide +kernel
theorem dX11_free_18 : decode cX11_free 18 = .ok (.aload_n 0, 1) := by decide +kernel
theorem dX11_free_19 : decode cX11_free 19 = .ok (.bipush 97, 2) := by decide +kernel
theorem dX11_free_21 : decode cX11_free 21 = .ok (.iload_n 2, 1) := by decide +kernel
theorem dX11_free_22 : decode cX11_free 22 = .ok (.iadd, 1) := by decide +kernel
theorem dX11_free_23 : decode cX11_free 23 = .ok (.invokevirtual 234, 3) := by decide +kernel
theorem dX11_free_26 : decode cX11_free 26 = .ok (.ifCond .ne 9, 3) := by decide +kernel
theorem dX11_free_29 : decode cX11_free 29 = .ok (.iconst 1, 1) := by decide +kernel
theorem dX11_free_30 : decode cX11_free 30 = .ok (.iload_n 2, 1) := by decide +kernel
theorem dX11_free_31 : decode cX11_free 31 = .ok (.ishl, 1) := by decide +kernel
theorem dX11_free_32 : decode cX11_free 32 = .ok (.goto 4, 3) := by decide +kernel
theorem dX11_free_35 : decode cX11_free 35 = .ok (.iconst 0, 1) := by decide +kernel
theorem dX11_free_36 : decode cX11_free 36 = .ok (.ior, 1) := by decide +kernel
theorem dX11_free_37 : decode cX11_free 37 = .ok (.istore_n 1, 1) := by decide +kernel
theorem dX11_free_38 : decode cX11_free 38 = .ok (.iinc 2 1, 3) := by decide +kernel
theorem dX11_free_41 : decode cX11_free 41 = .ok (.goto (-32), 3) := by decide +kernel
theorem dX11_free_44 : decode cX11_free 44 = .ok (.iload_n 1, 1) := by decide +kernel
theorem dX11_free_45 : decode cX11_free 45 = .ok (.ireturn, 1) := by decide +kernel
set_option maxRecDepth 20000 in
theorem ggX11_range_X11_keyByOne : GoodIn wsX11_range wsX11_keyByOne := goodIn_r _ [5, 6, 7, 8, 4, 9, 10, 11, 12, 13, 14, 15, 16, 17, 18, 19, 20, 21, 22, 23, 24, 25, 26, 27, 28, 29, 30, 31, 32, 33] (by decide +kernel) (by decide +kernel)
set_option maxRecDepth 20000 in
theorem gX11_range_X11_keyByOne : GoodIn wsX11_range (va_wsS RX11 393 yX11_keyByOne wsX11_keyByOne) := goodIn_app (goodIn_of _ (by decide +kernel)) ggX11_range_X11_keyByOne
set_option maxRecDepth 20000 in
theorem ggX11_range_X11_isIn : GoodIn wsX11_range wsX11_isIn := goodIn_r _ [36] (by decide +kernel) (by decide +kernel)
set_option maxRecDepth 20000 in
theorem gX11_range_X11_isIn : GoodIn wsX11_range (va_wsS RX11 122 yX11_isIn wsX11_isIn) := goodIn_app (goodIn_of _ (by decide +kernel)) ggX11_range_X11_isIn
set_option maxRecDepth 20000 in
theorem ggX11_range_X11_placeOf : GoodIn wsX11_range wsX11_placeOf := goodIn_r _ [40, 41, 42, 43, 4, 44, 45, 46, 47, 48, 49, 50, 51, 52, 53, 54, 55, 56, 57, 58, 59, 60, 61, 62, 63, 64, 65, 66, 67, 68, 69, 70, 71, 72, 73, 74, 75, 76, 77, 78, 79, 80, 81, 82, 83, 84, 85, 86, 87, 88, 89, 90, 91, 92, 93, 94, 95, 96] (by decide +kernel) (by decide +kernel)
set_option maxRecDepth 20000 in
theorem gX11_range_X11_placeOf : GoodIn wsX11_range (wsV RX11 254 RX11 yX11_placeOf wsX11_placeOf) := goodIn_app (goodIn_of _ (by decide +kernel)) ggX11_range_X11_placeOf
set_option maxRecDepth 20000 in
theorem ggX11_range_X11_of : GoodIn wsX11_range wsX11_of := goodIn_r _ [48, 49, 50, 51, 52, 53, 54, 55, 56, 57, 58, 59, 60, 61, 62, 63, 64, 65, 66, 67, 68, 69, 70, 71, 72, 73, 74, 75, 76, 77, 78, 79, 80, 81, 82, 83, 84, 85, 86, 87, 88, 89, 90, 91, 92, 93, 94, 95, 96] (by decide +kernel) (by decide +kernel)
set_option maxRecDepth 20000 in
theorem gX11_range_X11_of : GoodIn wsX11_range (wsV RX11 234 RX11 yX11_of wsX11_of) := goodIn_app (goodIn_of _ (by decide +kernel)) ggX11_range_X11_of
theorem dX11_range_0 : decode cX11_range 0 = .ok (.aload_n 0, 1) := by decide +kernel
theorem dX11_range_1 : decode cX11_range 1 = .ok (.iconst 0, 1) := by decide +kernel
theorem dX11_range_2 : decode cX11_range 2 = .ok (.putfield 77, 3) := by decide +kernel
theorem dX11_range_5 : decode cX11_range 5 = .ok (.iload_n 1, 1) := by decide +kernel
theorem dX11_range_6 : decode cX11_range 6 = .ok (.invokestatic 393, 3) := by decide +kernel
theorem dX11_range_9 : decode cX11_range 9 = .ok (.istore 4, 2) := by decide +kernel
theorem dX11_range_11 : decode cX11_range 11 = .ok (.iload_n 2, 1) := by decide +kernel
theorem dX11_range_12 : decode cX11_range 12 = .ok (.invokestatic 393, 3) := by decide +kernel
theorem dX11_range_15 : decode cX11_range 15 = .ok (.istore 5, 2) := by decide +kernel
theorem dX11_range_17 : decode cX11_range 17 = .ok (.iload 4, 2) := by decide +kernel
theorem dX11_range_19 : decode cX11_range 19 = .ok (.ifCond .lt 19, 3) := by decide +kernel
theorem dX11_range_22 : decode cX11_range 22 = .ok (.iload 5, 2) := by decide +kernel
theorem dX11_range_24 : decode cX11_range 24 = .ok (.iload 4, 2) := by decide +kernel
theorem dX11_range_26 : decode cX11_range 26 = .ok (.if_icmp .lt 12, 3) := by decide +kernel
theorem dX11_range_29 : decode cX11_range 29 = .ok (.iload_n 3, 1) := by decide +kernel
theorem dX11_range_30 : decode cX11_range 30 = .ok (.iconst 0, 1) := by decide +kernel
theorem dX11_range_31 : decode cX11_range 31 = .ok (.iconst 2, 1) := by decide +kernel
theorem dX11_range_32 : decode cX11_range 32 = .ok (.invokestatic 122, 3) := by decide +kernel
theorem dX11_range_35 : decode cX11_range 35 = .ok (.ifCond .ne 5, 3) := by decide +kernel
theorem dX11_range_38 : decode cX11_range 38 = .ok (.iconst (-1), 1) := by decide +kernel
theorem dX11_range_39 : decode cX11_range 39 = .ok (.ireturn, 1) := by decide +kernel
theorem dX11_range_40 : decode cX11_range 40 = .ok (.iconst 0, 1) := by decide +kernel
theorem dX11_range_41 : decode cX11_range 41 = .ok (.istore 6, 2) := by decide +kernel
theorem dX11_range_43 : decode cX11_range 43 = .ok (.aload_n 0, 1) := by decide +kernel
theorem dX11_range_44 : decode cX11_range 44 = .ok (.iload 4, 2) := by decide +kernel
theorem dX11_range_46 : decode cX11_range 46 = .ok (.invokevirtual 254, 3) := by decide +kernel
theorem dX11_range_49 : decode cX11_range 49 = .ok (.istore 7, 2) := by decide +kernel
theorem dX11_range_51 : decode cX11_range 51 = .ok (.iload 7, 2) := by decide +kernel
theorem dX11_range_53 : decode cX11_range 53 = .ok (.aload_n 0, 1) := by decide +kernel
theorem dX11_range_54 : decode cX11_range 54 = .ok (.iload 5, 2) := by decide +kernel
theorem dX11_range_56 : decode cX11_range 56 = .ok (.iconst 1, 1) := by decide +kernel
theorem dX11_range_57 : decode cX11_range 57 = .ok (.iadd, 1) := by decide +kernel
theorem dX11_range_58 : decode cX11_range 58 = .ok (.invokevirtual 254, 3) := by decide +kernel
theorem dX11_range_61 : decode cX11_range 61 = .ok (.if_icmp .ge 56, 3) := by decide +kernel
theorem dX11_range_64 : decode cX11_range 64 = .ok (.iload 6, 2) := by decide +kernel
theorem dX11_range_66 : decode cX11_range 66 = .ok (.iload_n 3, 1) := by decide +kernel
theorem dX11_range_67 : decode cX11_range 67 = .ok (.ifCond .ne 7, 3) := by decide +kernel
theorem dX11_range_70 : decode cX11_range 70 = .ok (.iconst 1, 1) := by decide +kernel
theorem dX11_range_71 : decode cX11_range 71 = .ok (.goto 37, 3) := by decide +kernel
theorem dX11_range_74 : decode cX11_range 74 = .ok (.iload_n 3, 1) := by decide +kernel
theorem dX11_range_75 : decode cX11_range 75 = .ok (.iconst 1, 1) := by decide +kernel
theorem dX11_range_76 : decode cX11_range 76 = .ok (.if_icmp .ne 15, 3) := by decide +kernel
theorem dX11_range_79 : decode cX11_range 79 = .ok (.aload_n 0, 1) := by decide +kernel
theorem dX11_range_80 : decode cX11_range 80 = .ok (.bipush 25, 2) := by decide +kernel
theorem dX11_range_82 : decode cX11_range 82 = .ok (.iload 7, 2) := by decide +kernel
theorem dX11_range_84 : decode cX11_range 84 = .ok (.iadd, 1) := by decide +kernel
theorem dX11_range_85 : decode cX11_range 85 = .ok (.invokevirtual 234, 3) := by decide +kernel
theorem dX11_range_88 : decode cX11_range 88 = .ok (.goto 20, 3) := by decide +kernel
theorem dX11_range_91 : decode cX11_range 91 = .ok (.aload_n 0, 1) := by decide +kernel
theorem dX11_range_92 : decode cX11_range 92 = .ok (.bipush 49, 2) := by decide +kernel
theorem dX11_range_94 : decode cX11_range 94 = .ok (.iload 7, 2) := by decide +kernel
theorem dX11_range_96 : decode cX11_range 96 = .ok (.iadd, 1) := by decide +kernel
theorem dX11_range_97 : decode cX11_range 97 = .ok (.invokevirtual 234, 3) := by decide +kernel
theorem dX11_range_100 : decode cX11_range 100 = .ok (.ifCond .ge 7, 3) := by decide +kernel
theorem dX11_range_103 : decode cX11_range 103 = .ok (.iconst 0, 1) := by decide +kernel
theorem dX11_range_104 : decode cX11_range 104 = .ok (.goto 4, 3) := by decide +kernel
theorem dX11_range_107 : decode cX11_range 107 = .ok (.iconst 1, 1) := by decide +kernel
theorem dX11_range_108 : decode cX11_range 108 = .ok (.iadd, 1) := by decide +kernel
theorem dX11_range_109 : decode cX11_range 109 = .ok (.istore 6, 2) := by decide +kernel
theorem dX11_range_111 : decode cX11_range 111 = .ok (.iinc 7 1, 3) := by decide +kernel
theorem dX11_range_114 : decode cX11_range 114 = .ok (.goto (-63), 3) := by decide +kernel
theorem dX11_range_117 : decode cX11_range 117 = .ok (.iload 6, 2) := by decide +kernel
theorem dX11_range_119 : decode cX11_range 119 = .ok (.ireturn, 1) := by decide +kernel
set_option maxRecDepth 20000 in
theorem ggX11_phantoms_X11_keyByOne : GoodIn wsX11_phantoms wsX11_keyByOne := goodIn_r _ [6, 7, 8, 9, 5, 10, 11, 12, 13, 14, 15, 16, 17, 18, 19, 20, 21, 22, 23, 24, 25, 26, 27, 28, 29, 30, 31, 32, 33, 34] (by decide +kernel) (by decide +kernel)
set_option maxRecDepth 20000 in
theorem gX11_phantoms_X11_keyByOne : GoodIn wsX11_phantoms (va_wsS RX11 393 yX11_keyByOne wsX11_keyByOne) := goodIn_app (goodIn_of _ (by decide +kernel)) ggX11_phantoms_X11_keyByOne
set_option maxRecDepth 20000 in
theorem ggX11_phantoms_X11_isHand : GoodIn wsX11_phantoms wsX11_isHand := goodIn_r _ [38, 2, 53, 54, 55, 56, 57, 58, 59, 60, 61, 62, 63, 64, 65, 66, 67, 68, 69, 70, 71, 72, 73, 74, 75, 76, 77, 78, 79, 80, 81, 82, 83, 84, 85, 86, 87, 88, 89, 90, 91, 92, 93, 94, 95, 96, 97, 98] (by decide +kernel) (by decide +kernel)
set_option maxRecDepth 20000 in
theorem gX11_phantoms_X11_isHand : GoodIn wsX11_phantoms (wsV RX11 341 RX11 yX11_isHand wsX11_isHand) := goodIn_app (goodIn_of _ (by decide +kernel)) ggX11_phantoms_X11_isHand
set_option maxRecDepth 20000 in
theorem ggX11_phantoms_X11_placeOf : GoodIn wsX11_phantoms wsX11_placeOf := goodIn_r _ [42, 43, 44, 45, 5, 46, 47, 48, 49, 50, 51, 52, 53, 54, 55, 56, 57, 58, 59, 60, 61, 62, 63, 64, 65, 66, 67, 68, 69, 70, 71, 72, 73, 74, 75, 76, 77, 78, 79, 80, 81, 82, 83, 84, 85, 86, 87, 88, 89, 90, 91, 92, 93, 94, 95, 96, 97, 98] (by decide +kernel) (by decide +kernel)
set_option maxRecDepth 20000 in
theorem gX11_phantoms_X11_placeOf : GoodIn wsX11_phantoms (wsV RX11 254 RX11 yX11_placeOf wsX11_placeOf) := goodIn_app (goodIn_of _ (by decide +kernel)) ggX11_phantoms_X11_placeOf
set_option maxRecDepth 20000 in
theorem ggX11_phantoms_X11_of : GoodIn wsX11_phantoms wsX11_of := goodIn_r _ [50, 51, 52, 53, 54, 55, 56, 57, 58, 59, 60, 61, 62, 63, 64, 65, 66, 67, 68, 69, 70, 71, 72, 73, 74, 75, 76, 77, 78, 79, 80, 81, 82, 83, 84, 85, 86, 87, 88, 89, 90, 91, 92, 93, 94, 95, 96, 97, 98] (by decide +kernel) (by decide +kernel)
set_option maxRecDepth 20000 in
theorem gX11_phantoms_X11_of : GoodIn wsX11_phantoms (wsV RX11 234 RX11 yX11_of wsX11_of) := goodIn_app (goodIn_of _ (by decide +kernel)) ggX11_phantoms_X11_of
theorem dX11_phantoms_0 : decode cX11_phantoms 0 = .ok (.aload_n 0, 1) := by decide +kernel
theorem dX11_phantoms_1 : decode cX11_phantoms 1 = .ok (.iconst 0, 1) := by decide +kernel
theorem dX11_phantoms_2 : decode cX11_phantoms 2 = .ok (.putfield 77, 3) := by decide +kernel
theorem dX11_phantoms_5 : decode cX11_phantoms 5 = .ok (.iload_n 2, 1) := by decide +kernel
theorem dX11_phantoms_6 : decode cX11_phantoms 6 = .ok (.invokestatic 393, 3) := by decide +kernel
theorem dX11_phantoms_9 : decode cX11_phantoms 9 = .ok (.istore 4, 2) := by decide +kernel
theorem dX11_phantoms_11 : decode cX11_phantoms 11 = .ok (.iload_n 3, 1) := by decide +kernel
theorem dX11_phantoms_12 : decode cX11_phantoms 12 = .ok (.invokestatic 393, 3) := by decide +kernel
theorem dX11_phantoms_15 : decode cX11_phantoms 15 = .ok (.istore 5, 2) := by decide +kernel
theorem dX11_phantoms_17 : decode cX11_phantoms 17 = .ok (.aload_n 0, 1) := by decide +kernel
theorem dX11_phantoms_18 : decode cX11_phantoms 18 = .ok (.iload_n 1, 1) := by decide +kernel
theorem dX11_phantoms_19 : decode cX11_phantoms 19 = .ok (.invokevirtual 341, 3) := by decide +kernel
theorem dX11_phantoms_22 : decode cX11_phantoms 22 = .ok (.ifCond .eq 15, 3) := by decide +kernel
theorem dX11_phantoms_25 : decode cX11_phantoms 25 = .ok (.iload 4, 2) := by decide +kernel
theorem dX11_phantoms_27 : decode cX11_phantoms 27 = .ok (.ifCond .lt 10, 3) := by decide +kernel
theorem dX11_phantoms_30 : decode cX11_phantoms 30 = .ok (.iload 5, 2) := by decide +kernel
theorem dX11_phantoms_32 : decode cX11_phantoms 32 = .ok (.iload 4, 2) := by decide +kernel
theorem dX11_phantoms_34 : decode cX11_phantoms 34 = .ok (.if_icmp .ge 5, 3) := by decide +kernel
theorem dX11_phantoms_37 : decode cX11_phantoms 37 = .ok (.iconst (-1), 1) := by decide +kernel
theorem dX11_phantoms_38 : decode cX11_phantoms 38 = .ok (.ireturn, 1) := by decide +kernel
theorem dX11_phantoms_39 : decode cX11_phantoms 39 = .ok (.iconst 0, 1) := by decide +kernel
theorem dX11_phantoms_40 : decode cX11_phantoms 40 = .ok (.istore 6, 2) := by decide +kernel
theorem dX11_phantoms_42 : decode cX11_phantoms 42 = .ok (.iconst 0, 1) := by decide +kernel
theorem dX11_phantoms_43 : decode cX11_phantoms 43 = .ok (.istore 7, 2) := by decide +kernel
theorem dX11_phantoms_45 : decode cX11_phantoms 45 = .ok (.iload 7, 2) := by decide +kernel
theorem dX11_phantoms_47 : decode cX11_phantoms 47 = .ok (.aload_n 0, 1) := by decide +kernel
theorem dX11_phantoms_48 : decode cX11_phantoms 48 = .ok (.getfield 189, 3) := by decide +kernel
theorem dX11_phantoms_51 : decode cX11_phantoms 51 = .ok (.if_icmp .ge 88, 3) := by decide +kernel
theorem dX11_phantoms_54 : decode cX11_phantoms 54 = .ok (.aload_n 0, 1) := by decide +kernel
theorem dX11_phantoms_55 : decode cX11_phantoms 55 = .ok (.iload 4, 2) := by decide +kernel
theorem dX11_phantoms_57 : decode cX11_phantoms 57 = .ok (.invokevirtual 254, 3) := by decide +kernel
theorem dX11_phantoms_60 : decode cX11_phantoms 60 = .ok (.istore 8, 2) := by decide +kernel
theorem dX11_phantoms_62 : decode cX11_phantoms 62 = .ok (.iload 8, 2) := by decide +kernel
theorem dX11_phantoms_64 : decode cX11_phantoms 64 = .ok (.aload_n 0, 1) := by decide +kernel
theorem dX11_phantoms_65 : decode cX11_phantoms 65 = .ok (.iload 5, 2) := by decide +kernel
theorem dX11_phantoms_67 : decode cX11_phantoms 67 = .ok (.iconst 1, 1) := by decide +kernel
theorem dX11_phantoms_68 : decode cX11_phantoms 68 = .ok (.iadd, 1) := by decide +kernel
theorem dX11_phantoms_69 : decode cX11_phantoms 69 = .ok (.invokevirtual 254, 3) := by decide +kernel
theorem dX11_phantoms_72 : decode cX11_phantoms 72 = .ok (.if_icmp .gt 61, 3) := by decide +kernel
theorem dX11_phantoms_75 : decode cX11_phantoms 75 = .ok (.iload 6, 2) := by decide +kernel
theorem dX11_phantoms_77 : decode cX11_phantoms 77 = .ok (.iload 7, 2) := by decide +kernel
theorem dX11_phantoms_79 : decode cX11_phantoms 79 = .ok (.iload_n 1, 1) := by decide +kernel
theorem dX11_phantoms_80 : decode cX11_phantoms 80 = .ok (.if_icmp .eq 43, 3) := by decide +kernel
theorem dX11_phantoms_83 : decode cX11_phantoms 83 = .ok (.aload_n 0, 1) := by decide +kernel
theorem dX11_phantoms_84 : decode cX11_phantoms 84 = .ok (.sipush 170, 3) := by decide +kernel
theorem dX11_phantoms_87 : decode cX11_phantoms 87 = .ok (.iload 7, 2) := by decide +kernel
theorem dX11_phantoms_89 : decode cX11_phantoms 89 = .ok (.iadd, 1) := by decide +kernel
theorem dX11_phantoms_90 : decode cX11_phantoms 90 = .ok (.invokevirtual 234, 3) := by decide +kernel
theorem dX11_phantoms_93 : decode cX11_phantoms 93 = .ok (.iconst 1, 1) := by decide +kernel
theorem dX11_phantoms_94 : decode cX11_phantoms 94 = .ok (.if_icmp .ne 29, 3) := by decide +kernel
theorem dX11_phantoms_97 : decode cX11_phantoms 97 = .ok (.aload_n 0, 1) := by decide +kernel
theorem dX11_phantoms_98 : decode cX11_phantoms 98 = .ok (.bipush 97, 2) := by decide +kernel
theorem dX11_phantoms_100 : decode cX11_phantoms 100 = .ok (.iload 8, 2) := by decide +kernel
theorem dX11_phantoms_102 : decode cX11_phantoms 102 = .ok (.iadd, 1) := by decide +kernel
theorem dX11_phantoms_103 : decode cX11_phantoms 103 = .ok (.invokevirtual 234, 3) := by decide +kernel
theorem dX11_phantoms_106 : decode cX11_phantoms 106 = .ok (.iconst 1, 1) := by decide +kernel
theorem dX11_phantoms_107 : decode cX11_phantoms 107 = .ok (.iload 7, 2) := by decide +kernel
theorem dX11_phantoms_109 : decode cX11_phantoms 109 = .ok (.ishl, 1) := by decide +kernel
theorem dX11_phantoms_110 : decode cX11_phantoms 110 = .ok (.iconst (-1), 1) := by decide +kernel
theorem dX11_phantoms_111 : decode cX11_phantoms 111 = .ok (.ixor, 1) := by decide +kernel
theorem dX11_phantoms_112 : decode cX11_phantoms 112 = .ok (.iand, 1) := by decide +kernel
theorem dX11_phantoms_113 : decode cX11_phantoms 113 = .ok (.ifCond .ne 10, 3) := by decide +kernel
theorem dX11_phantoms_116 : decode cX11_phantoms 116 = .ok (.iconst 1, 1) := by decide +kernel
theorem dX11_phantoms_117 : decode cX11_phantoms 117 = .ok (.iload 7, 2) := by decide +kernel
theorem dX11_phantoms_119 : decode cX11_phantoms 119 = .ok (.ishl, 1) := by decide +kernel
theorem dX11_phantoms_120 : decode cX11_phantoms 120 = .ok (.goto 4, 3) := by decide +kernel
theorem dX11_phantoms_123 : decode cX11_phantoms 123 = .ok (.iconst 0, 1) := by decide +kernel
theorem dX11_phantoms_124 : decode cX11_phantoms 124 = .ok (.ior, 1) := by decide +kernel
theorem dX11_phantoms_125 : decode cX11_phantoms 125 = .ok (.istore 6, 2) := by decide +kernel
theorem dX11_phantoms_127 : decode cX11_phantoms 127 = .ok (.iinc 8 1, 3) := by decide +kernel
theorem dX11_phantoms_130 : decode cX11_phantoms 130 = .ok (.goto (-68), 3) := by decide +kernel
theorem dX11_phantoms_133 : decode cX11_phantoms 133 = .ok (.iinc 7 1, 3) := by decide +kernel
theorem dX11_phantoms_136 : decode cX11_phantoms 136 = .ok (.goto (-91), 3) := by decide +kernel
theorem dX11_phantoms_139 : decode cX11_phantoms 139 = .ok (.iload 6, 2) := by decide +kernel
theorem dX11_phantoms_141 : decode cX11_phantoms 141 = .ok (.ireturn, 1) := by decide +kernel
set_option maxRecDepth 20000 in
theorem ggX11_open_X11_opens : GoodIn wsX11_open wsX11_opens := goodIn_r _ [6, 7, 8, 9, 5, 10, 11, 12, 13, 14, 15, 16, 17, 18, 19, 20, 21, 22, 23, 24, 25, 26, 27, 28, 29, 30, 31, 32, 33, 34, 35, 36, 37, 38, 39, 40, 41, 42, 43, 44, 45, 46, 47, 48, 49, 50, 51, 52, 53, 54, 55, 56, 57, 58, 59, 60, 61, 62, 63, 64, 65, 66, 67] (by decide +kernel) (by decide +kernel)
set_option maxRecDepth 20000 in
theorem gX11_open_X11_opens : GoodIn wsX11_open (wsV RX11 347 RX11 yX11_opens wsX11_opens) := goodIn_app (goodIn_of _ (by decide +kernel)) ggX11_open_X11_opens
theorem dX11_open_0 : decode cX11_open 0 = .ok (.aload_n 0, 1) := by decide +kernel
theorem dX11_open_1 : decode cX11_open 1 = .ok (.iconst 0, 1) := by decide +kernel
theorem dX11_open_2 : decode cX11_open 2 = .ok (.putfield 77, 3) := by decide +kernel
theorem dX11_open_5 : decode cX11_open 5 = .ok (.aload_n 0, 1) := by decide +kernel
theorem dX11_open_6 : decode cX11_open 6 = .ok (.iload_n 1, 1) := by decide +kernel
theorem dX11_open_7 : decode cX11_open 7 = .ok (.invokevirtual 347, 3) := by decide +kernel
theorem dX11_open_10 : decode cX11_open 10 = .ok (.ireturn, 1) := by decide +kernel
set_option maxRecDepth 20000 in
theorem ggX11_scan_X11_keyByOne : GoodIn wsX11_scan wsX11_keyByOne := goodIn_r _ [5, 6, 7, 8, 4, 9, 10, 11, 12, 13, 14, 15, 16, 17, 18, 19, 20, 21, 22, 23, 24, 25, 26, 27, 28, 29, 30, 31, 32, 33] (by decide +kernel) (by decide +kernel)
set_option maxRecDepth 20000 in
theorem gX11_scan_X11_keyByOne : GoodIn wsX11_scan (va_wsS RX11 393 yX11_keyByOne wsX11_keyByOne) := goodIn_app (goodIn_of _ (by decide +kernel)) ggX11_scan_X11_keyByOne
set_option maxRecDepth 20000 in
theorem ggX11_scan_X11_begins : GoodIn wsX11_scan wsX11_begins := goodIn_r _ [37, 38, 39, 40, 41, 42, 4, 43, 44, 45, 46, 47, 48, 49, 50, 51, 52, 53, 54, 55, 56, 57, 58, 59, 60, 61, 62, 63, 64, 65, 66, 67, 68, 69, 70, 71, 72, 73, 74, 75, 76, 77, 78, 79, 80, 81, 82, 83, 84, 85, 86, 87, 88, 89, 90, 91, 92, 93, 94, 95, 96, 97, 98, 99, 100, 101, 102, 103, 104, 105, 106, 107, 108, 109, 110, 111, 112, 113, 114, 115, 116, 117, 118, 119, 120, 121, 122, 123, 124, 125, 126, 127, 128, 129, 130, 131, 132, 133, 134, 135, 136, 137, 138, 139, 140, 141, 142, 143, 144, 145, 146, 147, 148, 149, 150, 151, 152, 153, 154, 155, 156, 157, 158, 159, 160, 161, 162, 163, 164, 165, 166, 167, 168, 169, 170, 171, 172, 173, 174, 175, 176, 177, 178, 179, 180, 181, 182, 183, 184, 185, 186, 187, 188, 189, 190, 191, 192, 193, 194, 195, 196, 197, 198, 199] (by decide +kernel) (by decide +kernel)
set_option maxRecDepth 20000 in
theorem gX11_scan_X11_begins : GoodIn wsX11_scan (wsV RX11 356 RX11 yX11_begins wsX11_begins) := goodIn_app (goodIn_of _ (by decide +kernel)) ggX11_scan_X11_begins
theorem dX11_scan_0 : decode cX11_scan 0 = .ok (.aload_n 0, 1) := by decide +kernel
theorem dX11_scan_1 : decode cX11_scan 1 = .ok (.iconst 0, 1) := by decide +kernel
theorem dX11_scan_2 : decode cX11_scan 2 = .ok (.putfield 77, 3) := by decide +kernel
theorem dX11_scan_5 : decode cX11_scan 5 = .ok (.iload_n 2, 1) := by decide +kernel
theorem dX11_scan_6 : decode cX11_scan 6 = .ok (.invokestatic 393, 3) := by decide +kernel
theorem dX11_scan_9 : decode cX11_scan 9 = .ok (.istore 4, 2) := by decide +kernel
theorem dX11_scan_11 : decode cX11_scan 11 = .ok (.iload_n 3, 1) := by decide +kernel
theorem dX11_scan_12 : decode cX11_scan 12 = .ok (.invokestatic 393, 3) := by decide +kernel
theorem dX11_scan_15 : decode cX11_scan 15 = .ok (.istore 5, 2) := by decide +kernel
theorem dX11_scan_17 : decode cX11_scan 17 = .ok (.iload 4, 2) := by decide +kernel
theorem dX11_scan_19 : decode cX11_scan 19 = .ok (.ifCond .lt 10, 3) := by decide +kernel
theorem dX11_scan_22 : decode cX11_scan 22 = .ok (.iload 5, 2) := by decide +kernel
theorem dX11_scan_24 : decode cX11_scan 24 = .ok (.iload 4, 2) := by decide +kernel
theorem dX11_scan_26 : decode cX11_scan 26 = .ok (.if_icmp .ge 7, 3) := by decide +kernel
theorem dX11_scan_29 : decode cX11_scan 29 = .ok (.iconst (-1), 1) := by decide +kernel
theorem dX11_scan_30 : decode cX11_scan 30 = .ok (.goto 14, 3) := by decide +kernel
theorem dX11_scan_33 : decode cX11_scan 33 = .ok (.aload_n 0, 1) := by decide +kernel
theorem dX11_scan_34 : decode cX11_scan 34 = .ok (.iload_n 1, 1) := by decide +kernel
theorem dX11_scan_35 : decode cX11_scan 35 = .ok (.iconst 3, 1) := by decide +kernel
theorem dX11_scan_36 : decode cX11_scan 36 = .ok (.iload 4, 2) := by decide +kernel
theorem dX11_scan_38 : decode cX11_scan 38 = .ok (.iload 5, 2) := by decide +kernel
theorem dX11_scan_40 : decode cX11_scan 40 = .ok (.iconst 0, 1) := by decide +kernel
theorem dX11_scan_41 : decode cX11_scan 41 = .ok (.invokevirtual 356, 3) := by decide +kernel
theorem dX11_scan_44 : decode cX11_scan 44 = .ok (.ireturn, 1) := by decide +kernel
set_option maxRecDepth 20000 in
theorem ggX11_seek_X11_isKeyTold : GoodIn wsX11_seek wsX11_isKeyTold := goodIn_r _ [5, 6, 7, 8, 4, 9] (by decide +kernel) (by decide +kernel)
set_option maxRecDepth 20000 in
theorem gX11_seek_X11_isKeyTold : GoodIn wsX11_seek (va_wsS RX11 369 yX11_isKeyTold wsX11_isKeyTold) := goodIn_app (goodIn_of _ (by decide +kernel)) ggX11_seek_X11_isKeyTold
set_option maxRecDepth 20000 in
theorem ggX11_seek_X11_keyOf : GoodIn wsX11_seek wsX11_keyOf := goodIn_r _ [12, 13, 14, 4, 15, 16, 17, 18, 19, 20, 21, 22, 23, 24, 25, 26, 27, 28, 29, 30, 31, 32, 33, 34, 35, 36] (by decide +kernel) (by decide +kernel)
set_option maxRecDepth 20000 in
theorem gX11_seek_X11_keyOf : GoodIn wsX11_seek (va_wsS RX11 177 yX11_keyOf wsX11_keyOf) := goodIn_app (goodIn_of _ (by decide +kernel)) ggX11_seek_X11_keyOf
set_option maxRecDepth 20000 in
theorem ggX11_seek_X11_begins : GoodIn wsX11_seek wsX11_begins := goodIn_r _ [40, 41, 42, 43, 44, 45, 4, 46, 47, 48, 49, 50, 51, 52, 53, 54, 55, 56, 57, 58, 59, 60, 61, 62, 63, 64, 65, 66, 67, 68, 69, 70, 71, 72, 73, 74, 75, 76, 77, 78, 79, 80, 81, 82, 83, 84, 85, 86, 87, 88, 89, 90, 91, 92, 93, 94, 95, 96, 97, 98, 99, 100, 101, 102, 103, 104, 105, 106, 107, 108, 109, 110, 111, 112, 113, 114, 115, 116, 117, 118, 119, 120, 121, 122, 123, 124, 125, 126, 127, 128, 129, 130, 131, 132, 133, 134, 135, 136, 137, 138, 139, 140, 141, 142, 143, 144, 145, 146, 147, 148, 149, 150, 151, 152, 153, 154, 155, 156, 157, 158, 159, 160, 161, 162, 163, 164, 165, 166, 167, 168, 169, 170, 171, 172, 173, 174, 175, 176, 177, 178, 179, 180, 181, 182, 183, 184, 185, 186, 187, 188, 189, 190, 191, 192, 193, 194, 195, 196, 197, 198, 199, 200, 201, 202] (by decide +kernel) (by decide +kernel)
set_option maxRecDepth 20000 in
theorem gX11_seek_X11_begins : GoodIn wsX11_seek (wsV RX11 356 RX11 yX11_begins wsX11_begins) := goodIn_app (goodIn_of _ (by decide +kernel)) ggX11_seek_X11_begins
theorem dX11_seek_0 : decode cX11_seek 0 = .ok (.aload_n 0, 1) := by decide +kernel
theorem dX11_seek_1 : decode cX11_seek 1 = .ok (.iconst 0, 1) := by decide +kernel
theorem dX11_seek_2 : decode cX11_seek 2 = .ok (.putfield 77, 3) := by decide +kernel
theorem dX11_seek_5 : decode cX11_seek 5 = .ok (.iload_n 2, 1) := by decide +kernel
theorem dX11_seek_6 : decode cX11_seek 6 = .ok (.iload_n 3, 1) := by decide +kernel
theorem dX11_seek_7 : decode cX11_seek 7 = .ok (.invokestatic 369, 3) := by decide +kernel
theorem dX11_seek_10 : decode cX11_seek 10 = .ok (.ifCond .eq 19, 3) := by decide +kernel
theorem dX11_seek_13 : decode cX11_seek 13 = .ok (.aload_n 0, 1) := by decide +kernel
theorem dX11_seek_14 : decode cX11_seek 14 = .ok (.iload_n 1, 1) := by decide +kernel
theorem dX11_seek_15 : decode cX11_seek 15 = .ok (.iconst 4, 1) := by decide +kernel
theorem dX11_seek_16 : decode cX11_seek 16 = .ok (.iload_n 2, 1) := by decide +kernel
theorem dX11_seek_17 : decode cX11_seek 17 = .ok (.iload_n 3, 1) := by decide +kernel
theorem dX11_seek_18 : decode cX11_seek 18 = .ok (.invokestatic 177, 3) := by decide +kernel
theorem dX11_seek_21 : decode cX11_seek 21 = .ok (.iconst 0, 1) := by decide +kernel
theorem dX11_seek_22 : decode cX11_seek 22 = .ok (.iconst 0, 1) := by decide +kernel
theorem dX11_seek_23 : decode cX11_seek 23 = .ok (.invokevirtual 356, 3) := by decide +kernel
theorem dX11_seek_26 : decode cX11_seek 26 = .ok (.goto 4, 3) := by decide +kernel
theorem dX11_seek_29 : decode cX11_seek 29 = .ok (.iconst (-1), 1) := by decide +kernel
theorem dX11_seek_30 : decode cX11_seek 30 = .ok (.ireturn, 1) := by decide +kernel
set_option maxRecDepth 20000 in
theorem ggX11_grab_X11_isKeyTold : GoodIn wsX11_grab wsX11_isKeyTold := goodIn_r _ [5, 6, 7, 8, 4, 9] (by decide +kernel) (by decide +kernel)
set_option maxRecDepth 20000 in
theorem gX11_grab_X11_isKeyTold : GoodIn wsX11_grab (va_wsS RX11 369 yX11_isKeyTold wsX11_isKeyTold) := goodIn_app (goodIn_of _ (by decide +kernel)) ggX11_grab_X11_isKeyTold
set_option maxRecDepth 20000 in
theorem ggX11_grab_X11_keyOf : GoodIn wsX11_grab wsX11_keyOf := goodIn_r _ [12, 13, 14, 4, 15, 16, 17, 18, 19, 20, 21, 22, 23, 24, 25, 26, 27, 28, 29, 30, 31, 32, 33, 34, 35, 36] (by decide +kernel) (by decide +kernel)
set_option maxRecDepth 20000 in
theorem gX11_grab_X11_keyOf : GoodIn wsX11_grab (va_wsS RX11 177 yX11_keyOf wsX11_keyOf) := goodIn_app (goodIn_of _ (by decide +kernel)) ggX11_grab_X11_keyOf
set_option maxRecDepth 20000 in
theorem ggX11_grab_X11_begins : GoodIn wsX11_grab wsX11_begins := goodIn_r _ [40, 41, 42, 43, 44, 45, 4, 46, 47, 48, 49, 50, 51, 52, 53, 54, 55, 56, 57, 58, 59, 60, 61, 62, 63, 64, 65, 66, 67, 68, 69, 70, 71, 72, 73, 74, 75, 76, 77, 78, 79, 80, 81, 82, 83, 84, 85, 86, 87, 88, 89, 90, 91, 92, 93, 94, 95, 96, 97, 98, 99, 100, 101, 102, 103, 104, 105, 106, 107, 108, 109, 110, 111, 112, 113, 114, 115, 116, 117, 118, 119, 120, 121, 122, 123, 124, 125, 126, 127, 128, 129, 130, 131, 132, 133, 134, 135, 136, 137, 138, 139, 140, 141, 142, 143, 144, 145, 146, 147, 148, 149, 150, 151, 152, 153, 154, 155, 156, 157, 158, 159, 160, 161, 162, 163, 164, 165, 166, 167, 168, 169, 170, 171, 172, 173, 174, 175, 176, 177, 178, 179, 180, 181, 182, 183, 184, 185, 186, 187, 188, 189, 190, 191, 192, 193, 194, 195, 196, 197, 198, 199, 200, 201, 202] (by decide +kernel) (by decide +kernel)
set_option maxRecDepth 20000 in
theorem gX11_grab_X11_begins : GoodIn wsX11_grab (wsV RX11 356 RX11 yX11_begins wsX11_begins) := goodIn_app (goodIn_of _ (by decide +kernel)) ggX11_grab_X11_begins
theorem dX11_grab_0 : decode cX11_grab 0 = .ok (.aload_n 0, 1) := by decide +kernel
theorem dX11_grab_1 : decode cX11_grab 1 = .ok (.iconst 0, 1) := by decide +kernel
theorem dX11_grab_2 : decode cX11_grab 2 = .ok (.putfield 77, 3) := by decide +kernel
theorem dX11_grab_5 : decode cX11_grab 5 = .ok (.iload_n 2, 1) := by decide +kernel
theorem dX11_grab_6 : decode cX11_grab 6 = .ok (.iload_n 3, 1) := by decide +kernel
theorem dX11_grab_7 : decode cX11_grab 7 = .ok (.invokestatic 369, 3) := by decide +kernel
theorem dX11_grab_10 : decode cX11_grab 10 = .ok (.ifCond .eq 19, 3) := by decide +kernel
theorem dX11_grab_13 : decode cX11_grab 13 = .ok (.aload_n 0, 1) := by decide +kernel
theorem dX11_grab_14 : decode cX11_grab 14 = .ok (.iload_n 1, 1) := by decide +kernel
theorem dX11_grab_15 : decode cX11_grab 15 = .ok (.iconst 5, 1) := by decide +kernel
theorem dX11_grab_16 : decode cX11_grab 16 = .ok (.iload_n 2, 1) := by decide +kernel
theorem dX11_grab_17 : decode cX11_grab 17 = .ok (.iload_n 3, 1) := by decide +kernel
theorem dX11_grab_18 : decode cX11_grab 18 = .ok (.invokestatic 177, 3) := by decide +kernel
theorem dX11_grab_21 : decode cX11_grab 21 = .ok (.iconst 0, 1) := by decide +kernel
theorem dX11_grab_22 : decode cX11_grab 22 = .ok (.iconst 0, 1) := by decide +kernel
theorem dX11_grab_23 : decode cX11_grab 23 = .ok (.invokevirtual 356, 3) := by decide +kernel
theorem dX11_grab_26 : decode cX11_grab 26 = .ok (.goto 4, 3) := by decide +kernel
theorem dX11_grab_29 : decode cX11_grab 29 = .ok (.iconst (-1), 1) := by decide +kernel
theorem dX11_grab_30 : decode cX11_grab 30 = .ok (.ireturn, 1) := by decide +kernel
set_option maxRecDepth 20000 in
theorem ggX11_set_X11_isKeyTold : GoodIn wsX11_set wsX11_isKeyTold := goodIn_r _ [5, 6, 7, 8, 4, 9] (by decide +kernel) (by decide +kernel)
set_option maxRecDepth 20000 in
theorem gX11_set_X11_isKeyTold : GoodIn wsX11_set (va_wsS RX11 369 yX11_isKeyTold wsX11_isKeyTold) := goodIn_app (goodIn_of _ (by decide +kernel)) ggX11_set_X11_isKeyTold
set_option maxRecDepth 20000 in
theorem ggX11_set_X11_isIn : GoodIn wsX11_set wsX11_isIn := goodIn_r _ [9] (by decide +kernel) (by decide +kernel)
set_option maxRecDepth 20000 in
theorem gX11_set_X11_isIn : GoodIn wsX11_set (va_wsS RX11 122 yX11_isIn wsX11_isIn) := goodIn_app (goodIn_of _ (by decide +kernel)) ggX11_set_X11_isIn
set_option maxRecDepth 20000 in
theorem ggX11_set_X11_keyOf : GoodIn wsX11_set wsX11_keyOf := goodIn_r _ [12, 13, 14, 4, 15, 16, 17, 18, 19, 20, 21, 22, 23, 24, 25, 26, 27, 28, 29, 30, 31, 32, 33, 34, 35, 36] (by decide +kernel) (by decide +kernel)
set_option maxRecDepth 20000 in
theorem gX11_set_X11_keyOf : GoodIn wsX11_set (va_wsS RX11 177 yX11_keyOf wsX11_keyOf) := goodIn_app (goodIn_of _ (by decide +kernel)) ggX11_set_X11_keyOf
set_option maxRecDepth 20000 in
theorem ggX11_set_X11_begins : GoodIn wsX11_set wsX11_begins := goodIn_r _ [40, 41, 42, 43, 44, 45, 4, 46, 47, 48, 49, 50, 51, 52, 53, 54, 55, 56, 57, 58, 59, 60, 61, 62, 63, 64, 65, 66, 67, 68, 69, 70, 71, 72, 73, 74, 75, 76, 77, 78, 79, 80, 81, 82, 83, 84, 85, 86, 87, 88, 89, 90, 91, 92, 93, 94, 95, 96, 97, 98, 99, 100, 101, 102, 103, 104, 105, 106, 107, 108, 109, 110, 111, 112, 113, 114, 115, 116, 117, 118, 119, 120, 121, 122, 123, 124, 125, 126, 127, 128, 129, 130, 131, 132, 133, 134, 135, 136, 137, 138, 139, 140, 141, 142, 143, 144, 145, 146, 147, 148, 149, 150, 151, 152, 153, 154, 155, 156, 157, 158, 159, 160, 161, 162, 163, 164, 165, 166, 167, 168, 169, 170, 171, 172, 173, 174, 175, 176, 177, 178, 179, 180, 181, 182, 183, 184, 185, 186, 187, 188, 189, 190, 191, 192, 193, 194, 195, 196, 197, 198, 199, 200, 201, 202] (by decide +kernel) (by decide +kernel)
set_option maxRecDepth 20000 in
theorem gX11_set_X11_begins : GoodIn wsX11_set (wsV RX11 356 RX11 yX11_begins wsX11_begins) := goodIn_app (goodIn_of _ (by decide +kernel)) ggX11_set_X11_begins
theorem dX11_set_0 : decode cX11_set 0 = .ok (.aload_n 0, 1) := by decide +kernel
theorem dX11_set_1 : decode cX11_set 1 = .ok (.iconst 0, 1) := by decide +kernel
theorem dX11_set_2 : decode cX11_set 2 = .ok (.putfield 77, 3) := by decide +kernel
theorem dX11_set_5 : decode cX11_set 5 = .ok (.iload_n 2, 1) := by decide +kernel
theorem dX11_set_6 : decode cX11_set 6 = .ok (.iload_n 3, 1) := by decide +kernel
theorem dX11_set_7 : decode cX11_set 7 = .ok (.invokestatic 369, 3) := by decide +kernel
theorem dX11_set_10 : decode cX11_set 10 = .ok (.ifCond .eq 33, 3) := by decide +kernel
theorem dX11_set_13 : decode cX11_set 13 = .ok (.iload 4, 2) := by decide +kernel
theorem dX11_set_15 : decode cX11_set 15 = .ok (.iconst 0, 1) := by decide +kernel
theorem dX11_set_16 : decode cX11_set 16 = .ok (.sipush 9999, 3) := by decide +kernel
theorem dX11_set_19 : decode cX11_set 19 = .ok (.invokestatic 122, 3) := by decide +kernel
theorem dX11_set_22 : decode cX11_set 22 = .ok (.ifCond .eq 21, 3) := by decide +kernel
theorem dX11_set_25 : decode cX11_set 25 = .ok (.aload_n 0, 1) := by decide +kernel
theorem dX11_set_26 : decode cX11_set 26 = .ok (.iload_n 1, 1) := by decide +kernel
theorem dX11_set_27 : decode cX11_set 27 = .ok (.bipush 6, 2) := by decide +kernel
theorem dX11_set_29 : decode cX11_set 29 = .ok (.iload_n 2, 1) := by decide +kernel
theorem dX11_set_30 : decode cX11_set 30 = .ok (.iload_n 3, 1) := by decide +kernel
theorem dX11_set_31 : decode cX11_set 31 = .ok (.invokestatic 177, 3) := by decide +kernel
theorem dX11_set_34 : decode cX11_set 34 = .ok (.iconst 0, 1) := by decide +kernel
theorem dX11_set_35 : decode cX11_set 35 = .ok (.iload 4, 2) := by decide +kernel
theorem dX11_set_37 : decode cX11_set 37 = .ok (.invokevirtual 356, 3) := by decide +kernel
theorem dX11_set_40 : decode cX11_set 40 = .ok (.goto 4, 3) := by decide +kernel
theorem dX11_set_43 : decode cX11_set 43 = .ok (.iconst (-1), 1) := by decide +kernel
theorem dX11_set_44 : decode cX11_set 44 = .ok (.ireturn, 1) := by decide +kernel
set_option maxRecDepth 20000 in
theorem ggX11_put_X11_isKeyTold : GoodIn wsX11_put wsX11_isKeyTold := goodIn_r _ [5, 6, 7, 8, 4, 9] (by decide +kernel) (by decide +kernel)
set_option maxRecDepth 20000 in
theorem gX11_put_X11_isKeyTold : GoodIn wsX11_put (va_wsS RX11 369 yX11_isKeyTold wsX11_isKeyTold) := goodIn_app (goodIn_of _ (by decide +kernel)) ggX11_put_X11_isKeyTold
set_option maxRecDepth 20000 in
theorem ggX11_put_X11_isIn : GoodIn wsX11_put wsX11_isIn := goodIn_r _ [9] (by decide +kernel) (by decide +kernel)
set_option maxRecDepth 20000 in
theorem gX11_put_X11_isIn : GoodIn wsX11_put (va_wsS RX11 122 yX11_isIn wsX11_isIn) := goodIn_app (goodIn_of _ (by decide +kernel)) ggX11_put_X11_isIn
set_option maxRecDepth 20000 in
theorem ggX11_put_X11_keyOf : GoodIn wsX11_put wsX11_keyOf := goodIn_r _ [12, 13, 14, 4, 15, 16, 17, 18, 19, 20, 21, 22, 23, 24, 25, 26, 27, 28, 29, 30, 31, 32, 33, 34, 35, 36] (by decide +kernel) (by decide +kernel)
set_option maxRecDepth 20000 in
theorem gX11_put_X11_keyOf : GoodIn wsX11_put (va_wsS RX11 177 yX11_keyOf wsX11_keyOf) := goodIn_app (goodIn_of _ (by decide +kernel)) ggX11_put_X11_keyOf
set_option maxRecDepth 20000 in
theorem ggX11_put_X11_begins : GoodIn wsX11_put wsX11_begins := goodIn_r _ [40, 41, 42, 43, 44, 45, 4, 46, 47, 48, 49, 50, 51, 52, 53, 54, 55, 56, 57, 58, 59, 60, 61, 62, 63, 64, 65, 66, 67, 68, 69, 70, 71, 72, 73, 74, 75, 76, 77, 78, 79, 80, 81, 82, 83, 84, 85, 86, 87, 88, 89, 90, 91, 92, 93, 94, 95, 96, 97, 98, 99, 100, 101, 102, 103, 104, 105, 106, 107, 108, 109, 110, 111, 112, 113, 114, 115, 116, 117, 118, 119, 120, 121, 122, 123, 124, 125, 126, 127, 128, 129, 130, 131, 132, 133, 134, 135, 136, 137, 138, 139, 140, 141, 142, 143, 144, 145, 146, 147, 148, 149, 150, 151, 152, 153, 154, 155, 156, 157, 158, 159, 160, 161, 162, 163, 164, 165, 166, 167, 168, 169, 170, 171, 172, 173, 174, 175, 176, 177, 178, 179, 180, 181, 182, 183, 184, 185, 186, 187, 188, 189, 190, 191, 192, 193, 194, 195, 196, 197, 198, 199, 200, 201, 202] (by decide +kernel) (by decide +kernel)
set_option maxRecDepth 20000 in
theorem gX11_put_X11_begins : GoodIn wsX11_put (wsV RX11 356 RX11 yX11_begins wsX11_begins) := goodIn_app (goodIn_of _ (by decide +kernel)) ggX11_put_X11_begins
theorem dX11_put_0 : decode cX11_put 0 = .ok (.aload_n 0, 1) := by decide +kernel
theorem dX11_put_1 : decode cX11_put 1 = .ok (.iconst 0, 1) := by decide +kernel
theorem dX11_put_2 : decode cX11_put 2 = .ok (.putfield 77, 3) := by decide +kernel
theorem dX11_put_5 : decode cX11_put 5 = .ok (.iload_n 2, 1) := by decide +kernel
theorem dX11_put_6 : decode cX11_put 6 = .ok (.iload_n 3, 1) := by decide +kernel
theorem dX11_put_7 : decode cX11_put 7 = .ok (.invokestatic 369, 3) := by decide +kernel
theorem dX11_put_10 : decode cX11_put 10 = .ok (.ifCond .eq 33, 3) := by decide +kernel
theorem dX11_put_13 : decode cX11_put 13 = .ok (.iload 4, 2) := by decide +kernel
theorem dX11_put_15 : decode cX11_put 15 = .ok (.iconst 0, 1) := by decide +kernel
theorem dX11_put_16 : decode cX11_put 16 = .ok (.sipush 9999, 3) := by decide +kernel
theorem dX11_put_19 : decode cX11_put 19 = .ok (.invokestatic 122, 3) := by decide +kernel
theorem dX11_put_22 : decode cX11_put 22 = .ok (.ifCond .eq 21, 3) := by decide +kernel
theorem dX11_put_25 : decode cX11_put 25 = .ok (.aload_n 0, 1) := by decide +kernel
theorem dX11_put_26 : decode cX11_put 26 = .ok (.iload_n 1, 1) := by decide +kernel
theorem dX11_put_27 : decode cX11_put 27 = .ok (.bipush 7, 2) := by decide +kernel
theorem dX11_put_29 : decode cX11_put 29 = .ok (.iload_n 2, 1) := by decide +kernel
theorem dX11_put_30 : decode cX11_put 30 = .ok (.iload_n 3, 1) := by decide +kernel
theorem dX11_put_31 : decode cX11_put 31 = .ok (.invokestatic 177, 3) := by decide +kernel
theorem dX11_put_34 : decode cX11_put 34 = .ok (.iconst 0, 1) := by decide +kernel
theorem dX11_put_35 : decode cX11_put 35 = .ok (.iload 4, 2) := by decide +kernel
theorem dX11_put_37 : decode cX11_put 37 = .ok (.invokevirtual 356, 3) := by decide +kernel
theorem dX11_put_40 : decode cX11_put 40 = .ok (.goto 4, 3) := by decide +kernel
theorem dX11_put_43 : decode cX11_put 43 = .ok (.iconst (-1), 1) := by decide +kernel
theorem dX11_put_44 : decode cX11_put 44 = .ok (.ireturn, 1) := by decide +kernel
set_option maxRecDepth 20000 in
theorem ggX11_putNext_X11_many : GoodIn wsX11_putNext wsX11_many := goodIn_r _ [6, 7, 8, 9, 5, 10, 11, 12, 126, 127, 128, 129, 130, 131, 132, 133, 134, 135, 136, 137, 138, 139, 140, 141, 142, 143, 144, 145, 146, 147, 148, 149, 150, 151, 152, 153, 154, 155, 156, 157, 158, 159, 160, 161, 162, 163, 164, 165, 166, 167, 168, 169, 170, 171] (by decide +kernel) (by decide +kernel)
set_option maxRecDepth 20000 in
theorem gX11_putNext_X11_many : GoodIn wsX11_putNext (wsV RX11 267 RX11 yX11_many wsX11_many) := goodIn_app (goodIn_of _ (by decide +kernel)) ggX11_putNext_X11_many
set_option maxRecDepth 20000 in
theorem ggX11_putNext_X11_isIn : GoodIn wsX11_putNext wsX11_isIn := goodIn_r _ [15] (by decide +kernel) (by decide +kernel)
set_option maxRecDepth 20000 in
theorem gX11_putNext_X11_isIn : GoodIn wsX11_putNext (va_wsS RX11 122 yX11_isIn wsX11_isIn) := goodIn_app (goodIn_of _ (by decide +kernel)) ggX11_putNext_X11_isIn
set_option maxRecDepth 20000 in
theorem ggX11_putNext_X11_of : GoodIn wsX11_putNext wsX11_of := goodIn_r _ [10, 11, 12, 126, 127, 128, 129, 130, 131, 132, 133, 134, 135, 136, 137, 138, 139, 140, 141, 142, 143, 144, 145, 146, 147, 148, 149, 150, 151, 152, 153, 154, 155, 156, 157, 158, 159, 160, 161, 162, 163, 164, 165, 166, 167, 168, 169, 170, 171] (by decide +kernel) (by decide +kernel)
set_option maxRecDepth 20000 in
theorem gX11_putNext_X11_of : GoodIn wsX11_putNext (wsV RX11 234 RX11 yX11_of wsX11_of) := goodIn_app (goodIn_of _ (by decide +kernel)) ggX11_putNext_X11_of
set_option maxRecDepth 20000 in
theorem ggX11_putNext_X11_begins : GoodIn wsX11_putNext wsX11_begins := goodIn_r _ [19, 20, 21, 22, 23, 24, 5, 25, 26, 7, 8, 9, 10, 11, 12, 27, 28, 29, 30, 31, 32, 33, 34, 35, 36, 37, 38, 39, 40, 41, 42, 43, 2, 3, 4, 6, 44, 45, 46, 47, 48, 49, 50, 51, 52, 53, 54, 55, 56, 57, 58, 59, 60, 61, 62, 63, 64, 65, 66, 67, 68, 69, 70, 71, 72, 73, 74, 75, 76, 77, 78, 79, 80, 81, 82, 83, 84, 85, 86, 87, 88, 89, 90, 91, 92, 93, 94, 95, 96, 97, 98, 99, 100, 101, 102, 103, 104, 105, 106, 107, 108, 109, 110, 111, 112, 113, 114, 115, 116, 117, 118, 119, 120, 121, 122, 123, 124, 125, 126, 127, 128, 129, 130, 131, 132, 133, 134, 135, 136, 137, 138, 139, 140, 141, 142, 143, 144, 145, 146, 147, 148, 149, 150, 151, 152, 153, 154, 155, 156, 157, 158, 159, 160, 161, 162, 163, 164, 165, 166, 167, 168, 169, 170, 171] (by decide +kernel) (by decide +kernel)
set_option maxRecDepth 20000 in
theorem gX11_putNext_X11_begins : GoodIn wsX11_putNext (wsV RX11 356 RX11 yX11_begins wsX11_begins) := goodIn_app (goodIn_of _ (by decide +kernel)) ggX11_putNext_X11_begins
theorem dX11_putNext_0 : decode cX11_putNext 0 = .ok (.aload_n 0, 1) := by decide +kernel
theorem dX11_putNext_1 : decode cX11_putNext 1 = .ok (.iconst 0, 1) := by decide +kernel
theorem dX11_putNext_2 : decode cX11_putNext 2 = .ok (.putfield 77, 3) := by decide +kernel
theorem dX11_putNext_5 : decode cX11_putNext 5 = .ok (.iload_n 2, 1) := by decide +kernel
theorem dX11_putNext_6 : decode cX11_putNext 6 = .ok (.ifCond .lt 22, 3) := by decide +kernel
theorem dX11_putNext_9 : decode cX11_putNext 9 = .ok (.iload_n 2, 1) := by decide +kernel
theorem dX11_putNext_10 : decode cX11_putNext 10 = .ok (.aload_n 0, 1) := by decide +kernel
theorem dX11_putNext_11 : decode cX11_putNext 11 = .ok (.invokevirtual 267, 3) := by decide +kernel
theorem dX11_putNext_14 : decode cX11_putNext 14 = .ok (.if_icmp .ge 14, 3) := by decide +kernel
theorem dX11_putNext_17 : decode cX11_putNext 17 = .ok (.iload_n 3, 1) := by decide +kernel
theorem dX11_putNext_18 : decode cX11_putNext 18 = .ok (.iconst 0, 1) := by decide +kernel
theorem dX11_putNext_19 : decode cX11_putNext 19 = .ok (.sipush 9999, 3) := by decide +kernel
theorem dX11_putNext_22 : decode cX11_putNext 22 = .ok (.invokestatic 122, 3) := by decide +kernel
theorem dX11_putNext_25 : decode cX11_putNext 25 = .ok (.ifCond .ne 5, 3) := by decide +kernel
theorem dX11_putNext_28 : decode cX11_putNext 28 = .ok (.iconst (-1), 1) := by decide +kernel
theorem dX11_putNext_29 : decode cX11_putNext 29 = .ok (.ireturn, 1) := by decide +kernel
theorem dX11_putNext_30 : decode cX11_putNext 30 = .ok (.aload_n 0, 1) := by decide +kernel
theorem dX11_putNext_31 : decode cX11_putNext 31 = .ok (.iload_n 1, 1) := by decide +kernel
theorem dX11_putNext_32 : decode cX11_putNext 32 = .ok (.bipush 7, 2) := by decide +kernel
theorem dX11_putNext_34 : decode cX11_putNext 34 = .ok (.aload_n 0, 1) := by decide +kernel
theorem dX11_putNext_35 : decode cX11_putNext 35 = .ok (.iconst 1, 1) := by decide +kernel
theorem dX11_putNext_36 : decode cX11_putNext 36 = .ok (.iload_n 2, 1) := by decide +kernel
theorem dX11_putNext_37 : decode cX11_putNext 37 = .ok (.iadd, 1) := by decide +kernel
theorem dX11_putNext_38 : decode cX11_putNext 38 = .ok (.invokevirtual 234, 3) := by decide +kernel
theorem dX11_putNext_41 : decode cX11_putNext 41 = .ok (.iconst 1, 1) := by decide +kernel
theorem dX11_putNext_42 : decode cX11_putNext 42 = .ok (.iadd, 1) := by decide +kernel
theorem dX11_putNext_43 : decode cX11_putNext 43 = .ok (.iconst 0, 1) := by decide +kernel
theorem dX11_putNext_44 : decode cX11_putNext 44 = .ok (.iload_n 3, 1) := by decide +kernel
theorem dX11_putNext_45 : decode cX11_putNext 45 = .ok (.invokevirtual 356, 3) := by decide +kernel
theorem dX11_putNext_48 : decode cX11_putNext 48 = .ok (.ireturn, 1) := by decide +kernel
set_option maxRecDepth 20000 in
theorem ggX11_cut_X11_isKeyTold : GoodIn wsX11_cut wsX11_isKeyTold := goodIn_r _ [5, 6, 7, 8, 4, 9] (by decide +kernel) (by decide +kernel)
set_option maxRecDepth 20000 in
theorem gX11_cut_X11_isKeyTold : GoodIn wsX11_cut (va_wsS RX11 369 yX11_isKeyTold wsX11_isKeyTold) := goodIn_app (goodIn_of _ (by decide +kernel)) ggX11_cut_X11_isKeyTold
set_option maxRecDepth 20000 in
theorem ggX11_cut_X11_keyOf : GoodIn wsX11_cut wsX11_keyOf := goodIn_r _ [12, 13, 14, 4, 15, 16, 17, 18, 19, 20, 21, 22, 23, 24, 25, 26, 27, 28, 29, 30, 31, 32, 33, 34, 35, 36] (by decide +kernel) (by decide +kernel)
set_option maxRecDepth 20000 in
theorem gX11_cut_X11_keyOf : GoodIn wsX11_cut (va_wsS RX11 177 yX11_keyOf wsX11_keyOf) := goodIn_app (goodIn_of _ (by decide +kernel)) ggX11_cut_X11_keyOf
set_option maxRecDepth 20000 in
theorem ggX11_cut_X11_begins : GoodIn wsX11_cut wsX11_begins := goodIn_r _ [40, 41, 42, 43, 44, 45, 4, 46, 47, 48, 49, 50, 51, 52, 53, 54, 55, 56, 57, 58, 59, 60, 61, 62, 63, 64, 65, 66, 67, 68, 69, 70, 71, 72, 73, 74, 75, 76, 77, 78, 79, 80, 81, 82, 83, 84, 85, 86, 87, 88, 89, 90, 91, 92, 93, 94, 95, 96, 97, 98, 99, 100, 101, 102, 103, 104, 105, 106, 107, 108, 109, 110, 111, 112, 113, 114, 115, 116, 117, 118, 119, 120, 121, 122, 123, 124, 125, 126, 127, 128, 129, 130, 131, 132, 133, 134, 135, 136, 137, 138, 139, 140, 141, 142, 143, 144, 145, 146, 147, 148, 149, 150, 151, 152, 153, 154, 155, 156, 157, 158, 159, 160, 161, 162, 163, 164, 165, 166, 167, 168, 169, 170, 171, 172, 173, 174, 175, 176, 177, 178, 179, 180, 181, 182, 183, 184, 185, 186, 187, 188, 189, 190, 191, 192, 193, 194, 195, 196, 197, 198, 199, 200, 201, 202] (by decide +kernel) (by decide +kernel)
set_option maxRecDepth 20000 in
theorem gX11_cut_X11_begins : GoodIn wsX11_cut (wsV RX11 356 RX11 yX11_begins wsX11_begins) := goodIn_app (goodIn_of _ (by decide +kernel)) ggX11_cut_X11_begins
theorem dX11_cut_0 : decode cX11_cut 0 = .ok (.aload_n 0, 1) := by decide +kernel
theorem dX11_cut_1 : decode cX11_cut 1 = .ok (.iconst 0, 1) := by decide +kernel
theorem dX11_cut_2 : decode cX11_cut 2 = .ok (.putfield 77, 3) := by decide +kernel
theorem dX11_cut_5 : decode cX11_cut 5 = .ok (.iload_n 2, 1) := by decide +kernel
theorem dX11_cut_6 : decode cX11_cut 6 = .ok (.iload_n 3, 1) := by decide +kernel
theorem dX11_cut_7 : decode cX11_cut 7 = .ok (.invokestatic 369, 3) := by decide +kernel
theorem dX11_cut_10 : decode cX11_cut 10 = .ok (.ifCond .eq 20, 3) := by decide +kernel
theorem dX11_cut_13 : decode cX11_cut 13 = .ok (.aload_n 0, 1) := by decide +kernel
theorem dX11_cut_14 : decode cX11_cut 14 = .ok (.iload_n 1, 1) := by decide +kernel
theorem dX11_cut_15 : decode cX11_cut 15 = .ok (.bipush 8, 2) := by decide +kernel
theorem dX11_cut_17 : decode cX11_cut 17 = .ok (.iload_n 2, 1) := by decide +kernel
theorem dX11_cut_18 : decode cX11_cut 18 = .ok (.iload_n 3, 1) := by decide +kernel
theorem dX11_cut_19 : decode cX11_cut 19 = .ok (.invokestatic 177, 3) := by decide +kernel
theorem dX11_cut_22 : decode cX11_cut 22 = .ok (.iconst 0, 1) := by decide +kernel
theorem dX11_cut_23 : decode cX11_cut 23 = .ok (.iconst 0, 1) := by decide +kernel
theorem dX11_cut_24 : decode cX11_cut 24 = .ok (.invokevirtual 356, 3) := by decide +kernel
theorem dX11_cut_27 : decode cX11_cut 27 = .ok (.goto 4, 3) := by decide +kernel
theorem dX11_cut_30 : decode cX11_cut 30 = .ok (.iconst (-1), 1) := by decide +kernel
theorem dX11_cut_31 : decode cX11_cut 31 = .ok (.ireturn, 1) := by decide +kernel
set_option maxRecDepth 20000 in
theorem ggX11_end_X11_endsNow : GoodIn wsX11_end wsX11_endsNow := goodIn_r _ [6, 7, 8, 9, 5, 10, 11, 12, 13, 14, 15, 16, 17, 18, 19, 20, 21, 22, 23, 24, 25, 26, 27, 28, 29, 30, 31, 32, 33, 34, 35, 36, 37, 38, 39, 40, 41, 42, 43, 44, 45, 46, 47, 48, 49, 50, 51, 52, 53, 54, 55, 56, 57, 58, 59, 60, 61, 62, 63, 64, 65, 66, 67, 68, 69, 70, 71, 72, 73, 74, 75, 76, 77, 78, 79, 80, 81, 82, 83, 84, 85, 86, 87, 88, 89, 90, 91, 92, 93, 94, 95, 96, 97, 98, 99, 100, 101, 102, 103, 104, 105, 106, 107, 108, 109, 110, 111, 112, 113, 114, 115, 116, 117, 118, 119, 120, 121, 122, 123, 124, 125, 126, 127, 128, 129, 130, 131, 132, 133, 134, 135, 136, 137, 138, 139, 140, 141, 142, 143, 144, 145, 146, 147, 148, 149, 150, 151, 152, 153, 154, 155, 156, 157, 158, 159, 160, 161, 162, 163, 164, 165, 166, 167, 168] (by decide +kernel) (by decide +kernel)
set_option maxRecDepth 20000 in
theorem gX11_end_X11_endsNow : GoodIn wsX11_end (wsV RX11 350 RX11 yX11_endsNow wsX11_endsNow) := goodIn_app (goodIn_of _ (by decide +kernel)) ggX11_end_X11_endsNow
theorem dX11_end_0 : decode cX11_end 0 = .ok (.aload_n 0, 1) := by decide +kernel
theorem dX11_end_1 : decode cX11_end 1 = .ok (.iconst 0, 1) := by decide +kernel
theorem dX11_end_2 : decode cX11_end 2 = .ok (.putfield 77, 3) := by decide +kernel
theorem dX11_end_5 : decode cX11_end 5 = .ok (.aload_n 0, 1) := by decide +kernel
theorem dX11_end_6 : decode cX11_end 6 = .ok (.iload_n 1, 1) := by decide +kernel
theorem dX11_end_7 : decode cX11_end 7 = .ok (.invokevirtual 350, 3) := by decide +kernel
theorem dX11_end_10 : decode cX11_end 10 = .ok (.ireturn, 1) := by decide +kernel
set_option maxRecDepth 20000 in
theorem ggX11_quit_X11_quitsNow : GoodIn wsX11_quit wsX11_quitsNow := goodIn_r _ [6, 7, 8, 9, 5, 10, 11, 12, 13, 14, 15, 16, 17, 18, 19, 20, 21, 22, 23, 24, 25, 26, 27, 28, 29, 30, 31, 32, 33, 34, 35, 36, 37, 38, 39, 40, 41, 42, 43, 44, 45, 46, 47, 48, 49, 50, 51, 52, 53, 54, 55, 56, 57, 58, 59, 60, 61, 62, 63, 64, 65, 66, 67, 68, 69, 70, 71, 72, 73, 74, 75, 76, 77, 78, 79, 80, 81, 82, 83, 84, 85, 86, 87, 88, 89, 90, 91, 92, 93, 94, 95, 96, 97, 98, 99, 100, 101, 102, 103, 104, 105, 106, 107, 108, 109, 110, 111, 112, 113, 114, 115, 116, 117, 118, 119, 120, 121, 122, 123, 124, 125, 126, 127, 128, 129, 130, 131, 132, 133, 134, 135, 136, 137, 138, 139, 140, 141, 142, 143, 144, 145, 146, 147, 148, 149, 150, 151, 152, 153, 154, 155, 156, 157, 158, 159, 160, 161, 162, 163, 164, 165, 166, 167, 168] (by decide +kernel) (by decide +kernel)
set_option maxRecDepth 20000 in
theorem gX11_quit_X11_quitsNow : GoodIn wsX11_quit (wsV RX11 353 RX11 yX11_quitsNow wsX11_quitsNow) := goodIn_app (goodIn_of _ (by decide +kernel)) ggX11_quit_X11_quitsNow
theorem dX11_quit_0 : decode cX11_quit 0 = .ok (.aload_n 0, 1) := by decide +kernel
theorem dX11_quit_1 : decode cX11_quit 1 = .ok (.iconst 0, 1) := by decide +kernel
theorem dX11_quit_2 : decode cX11_quit 2 = .ok (.putfield 77, 3) := by decide +kernel
theorem dX11_quit_5 : decode cX11_quit 5 = .ok (.aload_n 0, 1) := by decide +kernel
theorem dX11_quit_6 : decode cX11_quit 6 = .ok (.iload_n 1, 1) := by decide +kernel
theorem dX11_quit_7 : decode cX11_quit 7 = .ok (.invokevirtual 353, 3) := by decide +kernel
theorem dX11_quit_10 : decode cX11_quit 10 = .ok (.ireturn, 1) := by decide +kernel
set_option maxRecDepth 20000 in
theorem ggX11_outcome_X11_isHand : GoodIn wsX11_outcome wsX11_isHand := goodIn_r _ [6, 7, 14, 15, 16, 17, 18, 19, 20, 21, 22, 23, 24, 25, 26, 27, 28, 29, 30, 31, 32, 33, 34, 35, 36, 37, 38, 39, 40, 41, 42, 43, 44, 45, 46, 47, 48, 49, 50, 51, 52, 53, 54, 55, 56, 57, 58, 59] (by decide +kernel) (by decide +kernel)
set_option maxRecDepth 20000 in
theorem gX11_outcome_X11_isHand : GoodIn wsX11_outcome (wsV RX11 341 RX11 yX11_isHand wsX11_isHand) := goodIn_app (goodIn_of _ (by decide +kernel)) ggX11_outcome_X11_isHand
set_option maxRecDepth 20000 in
theorem ggX11_outcome_X11_of : GoodIn wsX11_outcome wsX11_of := goodIn_r _ [11, 12, 13, 14, 15, 16, 17, 18, 19, 20, 21, 22, 23, 24, 25, 26, 27, 28, 29, 30, 31, 32, 33, 34, 35, 36, 37, 38, 39, 40, 41, 42, 43, 44, 45, 46, 47, 48, 49, 50, 51, 52, 53, 54, 55, 56, 57, 58, 59] (by decide +kernel) (by decide +kernel)
set_option maxRecDepth 20000 in
theorem gX11_outcome_X11_of : GoodIn wsX11_outcome (wsV RX11 234 RX11 yX11_of wsX11_of) := goodIn_app (goodIn_of _ (by decide +kernel)) ggX11_outcome_X11_of
theorem dX11_outcome_0 : decode cX11_outcome 0 = .ok (.aload_n 0, 1) := by decide +kernel
theorem dX11_outcome_1 : decode cX11_outcome 1 = .ok (.iconst 0, 1) := by decide +kernel
theorem dX11_outcome_2 : decode cX11_outcome 2 = .ok (.putfield 77, 3) := by decide +kernel
theorem dX11_outcome_5 : decode cX11_outcome 5 = .ok (.aload_n 0, 1) := by decide +kernel
theorem dX11_outcome_6 : decode cX11_outcome 6 = .ok (.iload_n 1, 1) := by decide +kernel
theorem dX11_outcome_7 : decode cX11_outcome 7 = .ok (.invokevirtual 341, 3) := by decide +kernel
theorem dX11_outcome_10 : decode cX11_outcome 10 = .ok (.ifCond .eq 15, 3) := by decide +kernel
theorem dX11_outcome_13 : decode cX11_outcome 13 = .ok (.aload_n 0, 1) := by decide +kernel
theorem dX11_outcome_14 : decode cX11_outcome 14 = .ok (.sipush 220, 3) := by decide +kernel
theorem dX11_outcome_17 : decode cX11_outcome 17 = .ok (.iload_n 1, 1) := by decide +kernel
theorem dX11_outcome_18 : decode cX11_outcome 18 = .ok (.iadd, 1) := by decide +kernel
theorem dX11_outcome_19 : decode cX11_outcome 19 = .ok (.invokevirtual 234, 3) := by decide +kernel
theorem dX11_outcome_22 : decode cX11_outcome 22 = .ok (.goto 5, 3) := by decide +kernel
theorem dX11_outcome_25 : decode cX11_outcome 25 = .ok (.bipush (-5), 2) := by decide +kernel
theorem dX11_outcome_27 : decode cX11_outcome 27 = .ok (.ireturn, 1) := by decide +kernel
set_option maxRecDepth 20000 in
theorem ggX11_run_X11_isIn : GoodIn wsX11_run wsX11_isIn := goodIn_r _ [6] (by decide +kernel) (by decide +kernel)
set_option maxRecDepth 20000 in
theorem gX11_run_X11_isIn : GoodIn wsX11_run (va_wsS RX11 122 yX11_isIn wsX11_isIn) := goodIn_app (goodIn_of _ (by decide +kernel)) ggX11_run_X11_isIn
set_option maxRecDepth 20000 in
theorem ggX11_run_X11_runs : GoodIn wsX11_run wsX11_runs := goodIn_r _ [10, 11, 12, 13, 14, 15, 16, 5, 17, 18, 19, 20, 21, 22, 23, 2, 24, 25, 26, 27, 28, 29, 30, 31, 32, 33, 34, 35, 36, 37, 38, 39, 40, 41, 42, 43, 44, 45, 46, 47, 48, 49, 50, 51, 52, 53, 54, 55, 56, 57, 58, 59, 60, 61, 62, 63, 64, 65, 66, 67, 68, 69, 70, 71, 72, 73, 74, 75, 76, 77, 78, 79, 80, 81, 82, 83, 84, 85, 86, 87, 88, 89, 90, 91, 92, 93, 94, 95, 96, 97, 98, 99, 100, 101, 102, 103, 104, 105, 106, 107, 108, 109, 110, 111, 112, 113, 114, 115, 116, 117, 118, 119, 120, 121, 122, 123, 124, 125, 126, 127, 128, 129, 130, 131, 132, 133, 134, 135, 136, 137, 138, 139, 140, 141, 142, 143, 144, 145, 146, 147, 148, 149, 150, 151, 152, 153, 154, 155, 156, 157, 162, 163, 164, 165, 166, 167, 168, 169, 170, 171, 172, 173, 174, 175, 176, 177, 178, 179, 180, 181, 182, 183, 184, 185, 186, 187, 188, 189, 190, 191, 192, 193, 194, 195, 196, 197, 198, 199, 200, 201, 202, 203, 204, 205, 206, 207] (by decide +kernel) (by decide +kernel)
set_option maxRecDepth 20000 in
theorem gX11_run_X11_runs : GoodIn wsX11_run (wsV RX11 396 RX11 yX11_runs wsX11_runs) := goodIn_app (goodIn_of _ (by decide +kernel)) ggX11_run_X11_runs
set_option maxRecDepth 20000 in
theorem ggX11_run_X11_answeredMany : GoodIn wsX11_run wsX11_answeredMany := goodIn_r _ [161, 2, 14, 15, 16, 5, 17, 18, 19, 162, 163, 164, 165, 166, 167, 168, 169, 170, 171, 172, 173, 174, 175, 176, 177, 178, 179, 180, 181, 182, 183, 184, 185, 186, 187, 188, 189, 190, 191, 192, 193, 194, 195, 196, 197, 198, 199, 200, 201, 202, 203, 204, 205, 206, 207] (by decide +kernel) (by decide +kernel)
set_option maxRecDepth 20000 in
theorem gX11_run_X11_answeredMany : GoodIn wsX11_run (wsV RX11 399 RX11 yX11_answeredMany wsX11_answeredMany) := goodIn_app (goodIn_of _ (by decide +kernel)) ggX11_run_X11_answeredMany
theorem dX11_run_0 : decode cX11_run 0 = .ok (.aload_n 0, 1) := by decide +kernel
theorem dX11_run_1 : decode cX11_run 1 = .ok (.iconst 0, 1) := by decide +kernel
theorem dX11_run_2 : decode cX11_run 2 = .ok (.putfield 77, 3) := by decide +kernel
theorem dX11_run_5 : decode cX11_run 5 = .ok (.iload_n 1, 1) := by decide +kernel
theorem dX11_run_6 : decode cX11_run 6 = .ok (.iconst 0, 1) := by decide +kernel
theorem dX11_run_7 : decode cX11_run 7 = .ok (.bipush 24, 2) := by decide +kernel
theorem dX11_run_9 : decode cX11_run 9 = .ok (.invokestatic 122, 3) := by decide +kernel
theorem dX11_run_12 : decode cX11_run 12 = .ok (.ifCond .ne 5, 3) := by decide +kernel
theorem dX11_run_15 : decode cX11_run 15 = .ok (.iconst (-1), 1) := by decide +kernel
theorem dX11_run_16 : decode cX11_run 16 = .ok (.ireturn, 1) := by decide +kernel
theorem dX11_run_17 : decode cX11_run 17 = .ok (.aload_n 0, 1) := by decide +kernel
theorem dX11_run_18 : decode cX11_run 18 = .ok (.iload_n 1, 1) := by decide +kernel
theorem dX11_run_19 : decode cX11_run 19 = .ok (.invokevirtual 396, 3) := by decide +kernel
theorem dX11_run_22 : decode cX11_run 22 = .ok (.aload_n 0, 1) := by decide +kernel
theorem dX11_run_23 : decode cX11_run 23 = .ok (.getfield 195, 3) := by decide +kernel
theorem dX11_run_26 : decode cX11_run 26 = .ok (.aload_n 0, 1) := by decide +kernel
theorem dX11_run_27 : decode cX11_run 27 = .ok (.invokevirtual 399, 3) := by decide +kernel
theorem dX11_run_30 : decode cX11_run 30 = .ok (.isub, 1) := by decide +kernel
theorem dX11_run_31 : decode cX11_run 31 = .ok (.ireturn, 1) := by decide +kernel
set_option maxRecDepth 20000 in
theorem ggX11_answer_X11_of : GoodIn wsX11_answer wsX11_of := goodIn_r _ [7, 8, 9, 10, 11, 12, 13, 14, 15, 16, 17, 18, 19, 20, 21, 22, 23, 24, 25, 26, 27, 28, 29, 30, 31, 32, 33, 34, 35, 36, 37, 38, 39, 40, 41, 42, 43, 44, 45, 46, 47, 48, 49, 50, 51, 52, 53, 54, 55] (by decide +kernel) (by decide +kernel)
set_option maxRecDepth 20000 in
theorem gX11_answer_X11_of : GoodIn wsX11_answer (wsV RX11 234 RX11 yX11_of wsX11_of) := goodIn_app (goodIn_of _ (by decide +kernel)) ggX11_answer_X11_of
theorem dX11_answer_0 : decode cX11_answer 0 = .ok (.aload_n 0, 1) := by decide +kernel
theorem dX11_answer_1 : decode cX11_answer 1 = .ok (.iconst 0, 1) := by decide +kernel
theorem dX11_answer_2 : decode cX11_answer 2 = .ok (.putfield 77, 3) := by decide +kernel
theorem dX11_answer_5 : decode cX11_answer 5 = .ok (.iload_n 1, 1) := by decide +kernel
theorem dX11_answer_6 : decode cX11_answer 6 = .ok (.ifCond .lt 11, 3) := by decide +kernel
theorem dX11_answer_9 : decode cX11_answer 9 = .ok (.iload_n 1, 1) := by decide +kernel
theorem dX11_answer_10 : decode cX11_answer 10 = .ok (.aload_n 0, 1) := by decide +kernel
theorem dX11_answer_11 : decode cX11_answer 11 = .ok (.getfield 195, 3) := by decide +kernel
theorem dX11_answer_14 : decode cX11_answer 14 = .ok (.if_icmp .lt 8, 3) := by decide +kernel
theorem dX11_answer_17 : decode cX11_answer 17 = .ok (.bipush (-6), 2) := by decide +kernel
theorem dX11_answer_19 : decode cX11_answer 19 = .ok (.goto 12, 3) := by decide +kernel
theorem dX11_answer_22 : decode cX11_answer 22 = .ok (.aload_n 0, 1) := by decide +kernel
theorem dX11_answer_23 : decode cX11_answer 23 = .ok (.sipush 230, 3) := by decide +kernel
theorem dX11_answer_26 : decode cX11_answer 26 = .ok (.iload_n 1, 1) := by decide +kernel
theorem dX11_answer_27 : decode cX11_answer 27 = .ok (.iadd, 1) := by decide +kernel
theorem dX11_answer_28 : decode cX11_answer 28 = .ok (.invokevirtual 234, 3) := by decide +kernel
theorem dX11_answer_31 : decode cX11_answer 31 = .ok (.ireturn, 1) := by decide +kernel
set_option maxRecDepth 20000 in
theorem ggX11_layGoal_X11_asTold : GoodIn wsX11_layGoal wsX11_asTold := goodIn_r _ [7, 8, 9, 10, 11, 6, 12, 13, 14, 15, 16, 17, 18, 19, 20, 21, 22, 23, 24, 25, 26, 27, 28, 29, 30, 31, 32, 33, 34, 35, 36, 37, 38, 39, 40, 41, 42, 43, 44, 45, 46, 47, 48, 49, 50, 51, 52, 53, 54, 170, 171, 172, 173, 174, 175, 176, 177, 178, 179, 180, 181, 182, 183, 184, 185, 186, 187, 188, 189, 190, 191, 192, 193, 194, 195, 196, 197, 198, 199, 200, 201, 202, 203, 204, 205, 206, 207, 208, 209, 210, 211, 212, 213, 214, 215] (by decide +kernel) (by decide +kernel)
set_option maxRecDepth 20000 in
theorem gX11_layGoal_X11_asTold : GoodIn wsX11_layGoal (wsV RX11 402 RX11 yX11_asTold wsX11_asTold) := goodIn_app (goodIn_of _ (by decide +kernel)) ggX11_layGoal_X11_asTold
set_option maxRecDepth 20000 in
theorem ggX11_layGoal_X11_runs : GoodIn wsX11_layGoal wsX11_runs := goodIn_r _ [58, 53, 54, 59, 29, 30, 31, 6, 32, 20, 8, 60, 61, 62, 63, 52, 16, 17, 18, 19, 64, 65, 66, 67, 68, 69, 70, 71, 72, 73, 74, 75, 76, 77, 78, 79, 1, 80, 81, 82, 83, 25, 26, 27, 28, 84, 85, 86, 87, 37, 38, 39, 40, 41, 42, 43, 44, 88, 89, 90, 91, 92, 93, 94, 95, 96, 97, 98, 99, 100, 101, 102, 103, 104, 105, 51, 106, 107, 108, 109, 110, 111, 112, 113, 114, 50, 21, 22, 23, 24, 115, 116, 117, 118, 119, 120, 121, 122, 49, 123, 124, 125, 126, 127, 128, 129, 130, 131, 132, 133, 134, 33, 34, 35, 36, 135, 136, 137, 138, 139, 140, 141, 142, 143, 144, 145, 146, 147, 148, 149, 150, 151, 152, 153, 154, 155, 156, 157, 158, 159, 160, 161, 162, 163, 164, 165, 166, 167, 168, 169, 170, 171, 172, 173, 174, 175, 176, 177, 178, 179, 180, 181, 182, 183, 184, 185, 186, 187, 188, 189, 190, 191, 192, 193, 194, 195, 196, 197, 198, 199, 200, 201, 202, 203, 204, 205, 206, 207, 208, 209, 210, 211, 212, 213, 214, 215] (by decide +kernel) (by decide +kernel)
set_option maxRecDepth 20000 in
theorem gX11_layGoal_X11_runs : GoodIn wsX11_layGoal (wsV RX11 396 RX11 yX11_runs wsX11_runs) := goodIn_app (goodIn_of _ (by decide +kernel)) ggX11_layGoal_X11_runs
set_option maxRecDepth 20000 in
theorem ggX11_layGoal_X11_of : GoodIn wsX11_layGoal wsX11_of := goodIn_r _ [32, 20, 8, 170, 171, 172, 173, 174, 175, 176, 177, 178, 179, 180, 181, 182, 183, 184, 185, 186, 187, 188, 189, 190, 191, 192, 193, 194, 195, 196, 197, 198, 199, 200, 201, 202, 203, 204, 205, 206, 207, 208, 209, 210, 211, 212, 213, 214, 215] (by decide +kernel) (by decide +kernel)
set_option maxRecDepth 20000 in
theorem gX11_layGoal_X11_of : GoodIn wsX11_layGoal (wsV RX11 234 RX11 yX11_of wsX11_of) := goodIn_app (goodIn_of _ (by decide +kernel)) ggX11_layGoal_X11_of
set_option maxRecDepth 20000 in
theorem ggX11_layGoal_X11_endsNow : GoodIn wsX11_layGoal wsX11_endsNow := goodIn_r _ [83, 76, 77, 78, 6, 79, 1, 29, 30, 31, 32, 20, 8, 25, 26, 27, 28, 84, 85, 86, 87, 16, 17, 18, 19, 37, 38, 39, 40, 41, 42, 43, 44, 88, 89, 90, 91, 92, 93, 94, 95, 96, 97, 98, 99, 100, 101, 102, 103, 104, 105, 51, 106, 107, 108, 109, 110, 111, 112, 113, 114, 50, 21, 22, 23, 24, 115, 116, 117, 118, 119, 120, 121, 122, 49, 123, 124, 125, 126, 127, 128, 129, 130, 131, 132, 133, 134, 33, 34, 35, 36, 135, 136, 137, 138, 139, 140, 141, 142, 143, 144, 145, 146, 147, 148, 149, 150, 151, 152, 153, 154, 155, 156, 157, 158, 159, 160, 161, 170, 171, 172, 173, 174, 175, 176, 177, 178, 179, 180, 181, 182, 183, 184, 185, 186, 187, 188, 189, 190, 191, 192, 193, 194, 195, 196, 197, 198, 199, 200, 201, 202, 203, 204, 205, 206, 207, 208, 209, 210, 211, 212, 213, 214, 215] (by decide +kernel) (by decide +kernel)
set_option maxRecDepth 20000 in
theorem gX11_layGoal_X11_endsNow : GoodIn wsX11_layGoal (wsV RX11 350 RX11 yX11_endsNow wsX11_endsNow) := goodIn_app (goodIn_of _ (by decide +kernel)) ggX11_layGoal_X11_endsNow
set_option maxRecDepth 20000 in
theorem ggX11_layGoal_X11_doKept : GoodIn wsX11_layGoal wsX11_doKept := goodIn_r _ [63, 52, 59, 29, 30, 31, 6, 32, 20, 8, 16, 17, 18, 19, 64, 65, 66, 67, 68, 69, 70, 71, 72, 73, 74, 75, 76, 77, 78, 79, 1, 80, 81, 82, 83, 25, 26, 27, 28, 84, 85, 86, 87, 37, 38, 39, 40, 41, 42, 43, 44, 88, 89, 90, 91, 92, 93, 94, 95, 96, 97, 98, 99, 100, 101, 102, 103, 104, 105, 51, 106, 107, 108, 109, 110, 111, 112, 113, 114, 50, 21, 22, 23, 24, 115, 116, 117, 118, 119, 120, 121, 122, 49, 123, 124, 125, 126, 127, 128, 129, 130, 131, 132, 133, 134, 33, 34, 35, 36, 135, 136, 137, 138, 139, 140, 141, 142, 143, 144, 145, 146, 147, 148, 149, 150, 151, 152, 153, 154, 155, 156, 157, 158, 159, 160, 161, 162, 163, 164, 165, 166, 167, 168, 169, 170, 171, 172, 173, 174, 175, 176, 177, 178, 179, 180, 181, 182, 183, 184, 185, 186, 187, 188, 189, 190, 191, 192, 193, 194, 195, 196, 197, 198, 199, 200, 201, 202, 203, 204, 205, 206, 207, 208, 209, 210, 211, 212, 213, 214, 215] (by decide +kernel) (by decide +kernel)
set_option maxRecDepth 20000 in
theorem gX11_layGoal_X11_doKept : GoodIn wsX11_layGoal (wsV RX11 363 RX11 yX11_doKept wsX11_doKept) := goodIn_app (goodIn_of _ (by decide +kernel)) ggX11_layGoal_X11_doKept
set_option maxRecDepth 20000 in
theorem ggX11_layGoal_X11_many : GoodIn wsX11_layGoal wsX11_many := goodIn_r _ [28, 29, 30, 31, 6, 32, 20, 8, 170, 171, 172, 173, 174, 175, 176, 177, 178, 179, 180, 181, 182, 183, 184, 185, 186, 187, 188, 189, 190, 191, 192, 193, 194, 195, 196, 197, 198, 199, 200, 201, 202, 203, 204, 205, 206, 207, 208, 209, 210, 211, 212, 213, 214, 215] (by decide +kernel) (by decide +kernel)
set_option maxRecDepth 20000 in
theorem gX11_layGoal_X11_many : GoodIn wsX11_layGoal (wsV RX11 267 RX11 yX11_many wsX11_many) := goodIn_app (goodIn_of _ (by decide +kernel)) ggX11_layGoal_X11_many
theorem dX11_layGoal_0 : decode cX11_layGoal 0 = .ok (.aload_n 0, 1) := by decide +kernel
theorem dX11_layGoal_1 : decode cX11_layGoal 1 = .ok (.invokevirtual 402, 3) := by decide +kernel
theorem dX11_layGoal_4 : decode cX11_layGoal 4 = .ok (.aload_n 0, 1) := by decide +kernel
theorem dX11_layGoal_5 : decode cX11_layGoal 5 = .ok (.bipush 24, 2) := by decide +kernel
theorem dX11_layGoal_7 : decode cX11_layGoal 7 = .ok (.invokevirtual 396, 3) := by decide +kernel
theorem dX11_layGoal_10 : decode cX11_layGoal 10 = .ok (.iconst 0, 1) := by decide +kernel
theorem dX11_layGoal_11 : decode cX11_layGoal 11 = .ok (.istore_n 1, 1) := by decide +kernel
theorem dX11_layGoal_12 : decode cX11_layGoal 12 = .ok (.iload_n 1, 1) := by decide +kernel
theorem dX11_layGoal_13 : decode cX11_layGoal 13 = .ok (.aload_n 0, 1) := by decide +kernel
theorem dX11_layGoal_14 : decode cX11_layGoal 14 = .ok (.getfield 189, 3) := by decide +kernel
theorem dX11_layGoal_17 : decode cX11_layGoal 17 = .ok (.if_icmp .ge 37, 3) := by decide +kernel
theorem dX11_layGoal_20 : decode cX11_layGoal 20 = .ok (.aload_n 0, 1) := by decide +kernel
theorem dX11_layGoal_21 : decode cX11_layGoal 21 = .ok (.sipush 170, 3) := by decide +kernel
theorem dX11_layGoal_24 : decode cX11_layGoal 24 = .ok (.iload_n 1, 1) := by decide +kernel
theorem dX11_layGoal_25 : decode cX11_layGoal 25 = .ok (.iadd, 1) := by decide +kernel
theorem dX11_layGoal_26 : decode cX11_layGoal 26 = .ok (.invokevirtual 234, 3) := by decide +kernel
theorem dX11_layGoal_29 : decode cX11_layGoal 29 = .ok (.iconst 1, 1) := by decide +kernel
theorem dX11_layGoal_30 : decode cX11_layGoal 30 = .ok (.if_icmp .ne 18, 3) := by decide +kernel
theorem dX11_layGoal_33 : decode cX11_layGoal 33 = .ok (.aload_n 0, 1) := by decide +kernel
theorem dX11_layGoal_34 : decode cX11_layGoal 34 = .ok (.iload_n 1, 1) := by decide +kernel
theorem dX11_layGoal_35 : decode cX11_layGoal 35 = .ok (.invokevirtual 350, 3) := by decide +kernel
theorem dX11_layGoal_38 : decode cX11_layGoal 38 = .ok (.pop, 1) := by decide +kernel
theorem dX11_layGoal_39 : decode cX11_layGoal 39 = .ok (.aload_n 0, 1) := by decide +kernel
theorem dX11_layGoal_40 : decode cX11_layGoal 40 = .ok (.invokevirtual 363, 3) := by decide +kernel
theorem dX11_layGoal_43 : decode cX11_layGoal 43 = .ok (.iconst 0, 1) := by decide +kernel
theorem dX11_layGoal_44 : decode cX11_layGoal 44 = .ok (.istore_n 1, 1) := by decide +kernel
theorem dX11_layGoal_45 : decode cX11_layGoal 45 = .ok (.goto (-33), 3) := by decide +kernel
theorem dX11_layGoal_48 : decode cX11_layGoal 48 = .ok (.iinc 1 1, 3) := by decide +kernel
theorem dX11_layGoal_51 : decode cX11_layGoal 51 = .ok (.goto (-39), 3) := by decide +kernel
theorem dX11_layGoal_54 : decode cX11_layGoal 54 = .ok (.aload_n 0, 1) := by decide +kernel
theorem dX11_layGoal_55 : decode cX11_layGoal 55 = .ok (.getfield 62, 3) := by decide +kernel
theorem dX11_layGoal_58 : decode cX11_layGoal 58 = .ok (.iconst 0, 1) := by decide +kernel
theorem dX11_layGoal_59 : decode cX11_layGoal 59 = .ok (.aload_n 0, 1) := by decide +kernel
theorem dX11_layGoal_60 : decode cX11_layGoal 60 = .ok (.invokevirtual 267, 3) := by decide +kernel
theorem dX11_layGoal_63 : decode cX11_layGoal 63 = .ok (.iastore, 1) := by decide +kernel
theorem dX11_layGoal_64 : decode cX11_layGoal 64 = .ok (.iconst 0, 1) := by decide +kernel
theorem dX11_layGoal_65 : decode cX11_layGoal 65 = .ok (.istore_n 2, 1) := by decide +kernel
theorem dX11_layGoal_66 : decode cX11_layGoal 66 = .ok (.iload_n 2, 1) := by decide +kernel
theorem dX11_layGoal_67 : decode cX11_layGoal 67 = .ok (.aload_n 0, 1) := by decide +kernel
theorem dX11_layGoal_68 : decode cX11_layGoal 68 = .ok (.invokevirtual 267, 3) := by decide +kernel
theorem dX11_layGoal_71 : decode cX11_layGoal 71 = .ok (.if_icmp .ge 41, 3) := by decide +kernel
theorem dX11_layGoal_74 : decode cX11_layGoal 74 = .ok (.aload_n 0, 1) := by decide +kernel
theorem dX11_layGoal_75 : decode cX11_layGoal 75 = .ok (.getfield 62, 3) := by decide +kernel
theorem dX11_layGoal_78 : decode cX11_layGoal 78 = .ok (.iconst 1, 1) := by decide +kernel
theorem dX11_layGoal_79 : decode cX11_layGoal 79 = .ok (.iload_n 2, 1) := by decide +kernel
theorem dX11_layGoal_80 : decode cX11_layGoal 80 = .ok (.iadd, 1) := by decide +kernel
theorem dX11_layGoal_81 : decode cX11_layGoal 81 = .ok (.aload_n 0, 1) := by decide +kernel
theorem dX11_layGoal_82 : decode cX11_layGoal 82 = .ok (.iconst 1, 1) := by decide +kernel
theorem dX11_layGoal_83 : decode cX11_layGoal 83 = .ok (.iload_n 2, 1) := by decide +kernel
theorem dX11_layGoal_84 : decode cX11_layGoal 84 = .ok (.iadd, 1) := by decide +kernel
theorem dX11_layGoal_85 : decode cX11_layGoal 85 = .ok (.invokevirtual 234, 3) := by decide +kernel
theorem dX11_layGoal_88 : decode cX11_layGoal 88 = .ok (.iastore, 1) := by decide +kernel
theorem dX11_layGoal_89 : decode cX11_layGoal 89 = .ok (.aload_n 0, 1) := by decide +kernel
theorem dX11_layGoal_90 : decode cX11_layGoal 90 = .ok (.getfield 62, 3) := by decide +kernel
theorem dX11_layGoal_93 : decode cX11_layGoal 93 = .ok (.bipush 25, 2) := by decide +kernel
theorem dX11_layGoal_95 : decode cX11_layGoal 95 = .ok (.iload_n 2, 1) := by decide +kernel
theorem dX11_layGoal_96 : decode cX11_layGoal 96 = .ok (.iadd, 1) := by decide +kernel
theorem dX11_layGoal_97 : decode cX11_layGoal 97 = .ok (.aload_n 0, 1) := by decide +kernel
theorem dX11_layGoal_98 : decode cX11_layGoal 98 = .ok (.bipush 25, 2) := by decide +kernel
theorem dX11_layGoal_100 : decode cX11_layGoal 100 = .ok (.iload_n 2, 1) := by decide +kernel
theorem dX11_layGoal_101 : decode cX11_layGoal 101 = .ok (.iadd, 1) := by decide +kernel
theorem dX11_layGoal_102 : decode cX11_layGoal 102 = .ok (.invokevirtual 234, 3) := by decide +kernel
theorem dX11_layGoal_105 : decode cX11_layGoal 105 = .ok (.iastore, 1) := by decide +kernel
theorem dX11_layGoal_106 : decode cX11_layGoal 106 = .ok (.iinc 2 1, 3) := by decide +kernel
theorem dX11_layGoal_109 : decode cX11_layGoal 109 = .ok (.goto (-43), 3) := by decide +kernel
theorem dX11_layGoal_112 : decode cX11_layGoal 112 = .ok (.return_, 1) := by decide +kernel
set_option maxRecDepth 20000 in
theorem ggX11_isGoal_X11_many : GoodIn wsX11_isGoal wsX11_many := goodIn_r _ [6, 7, 8, 9, 5, 10, 11, 12, 13, 14, 15, 16, 17, 18, 19, 20, 21, 22, 23, 24, 25, 26, 27, 28, 29, 30, 31, 32, 33, 34, 35, 36, 37, 38, 39, 40, 41, 42, 43, 44, 45, 46, 47, 48, 49, 50, 51, 52, 53, 54, 55, 56, 57, 58] (by decide +kernel) (by decide +kernel)
set_option maxRecDepth 20000 in
theorem gX11_isGoal_X11_many : GoodIn wsX11_isGoal (wsV RX11 267 RX11 yX11_many wsX11_many) := goodIn_app (goodIn_of _ (by decide +kernel)) ggX11_isGoal_X11_many
set_option maxRecDepth 20000 in
theorem ggX11_isGoal_X11_of : GoodIn wsX11_isGoal wsX11_of := goodIn_r _ [10, 11, 12, 13, 14, 15, 16, 17, 18, 19, 20, 21, 22, 23, 24, 25, 26, 27, 28, 29, 30, 31, 32, 33, 34, 35, 36, 37, 38, 39, 40, 41, 42, 43, 44, 45, 46, 47, 48, 49, 50, 51, 52, 53, 54, 55, 56, 57, 58] (by decide +kernel) (by decide +kernel)
set_option maxRecDepth 20000 in
theorem gX11_isGoal_X11_of : GoodIn wsX11_isGoal (wsV RX11 234 RX11 yX11_of wsX11_of) := goodIn_app (goodIn_of _ (by decide +kernel)) ggX11_isGoal_X11_of
theorem dX11_isGoal_0 : decode cX11_isGoal 0 = .ok (.aload_n 0, 1) := by decide +kernel
theorem dX11_isGoal_1 : decode cX11_isGoal 1 = .ok (.invokevirtual 267, 3) := by decide +kernel
theorem dX11_isGoal_4 : decode cX11_isGoal 4 = .ok (.aload_n 0, 1) := by decide +kernel
theorem dX11_isGoal_5 : decode cX11_isGoal 5 = .ok (.getfield 62, 3) := by decide +kernel
theorem dX11_isGoal_8 : decode cX11_isGoal 8 = .ok (.iconst 0, 1) := by decide +kernel
theorem dX11_isGoal_9 : decode cX11_isGoal 9 = .ok (.iaload, 1) := by decide +kernel
theorem dX11_isGoal_10 : decode cX11_isGoal 10 = .ok (.if_icmp .eq 5, 3) := by decide +kernel
theorem dX11_isGoal_13 : decode cX11_isGoal 13 = .ok (.iconst 0, 1) := by decide +kernel
theorem dX11_isGoal_14 : decode cX11_isGoal 14 = .ok (.ireturn, 1) := by decide +kernel
theorem dX11_isGoal_15 : decode cX11_isGoal 15 = .ok (.iconst 0, 1) := by decide +kernel
theorem dX11_isGoal_16 : decode cX11_isGoal 16 = .ok (.istore_n 1, 1) := by decide +kernel
theorem dX11_isGoal_17 : decode cX11_isGoal 17 = .ok (.iload_n 1, 1) := by decide +kernel
theorem dX11_isGoal_18 : decode cX11_isGoal 18 = .ok (.aload_n 0, 1) := by decide +kernel
theorem dX11_isGoal_19 : decode cX11_isGoal 19 = .ok (.invokevirtual 267, 3) := by decide +kernel
theorem dX11_isGoal_22 : decode cX11_isGoal 22 = .ok (.if_icmp .ge 49, 3) := by decide +kernel
theorem dX11_isGoal_25 : decode cX11_isGoal 25 = .ok (.aload_n 0, 1) := by decide +kernel
theorem dX11_isGoal_26 : decode cX11_isGoal 26 = .ok (.iconst 1, 1) := by decide +kernel
theorem dX11_isGoal_27 : decode cX11_isGoal 27 = .ok (.iload_n 1, 1) := by decide +kernel
theorem dX11_isGoal_28 : decode cX11_isGoal 28 = .ok (.iadd, 1) := by decide +kernel
theorem dX11_isGoal_29 : decode cX11_isGoal 29 = .ok (.invokevirtual 234, 3) := by decide +kernel
theorem dX11_isGoal_32 : decode cX11_isGoal 32 = .ok (.aload_n 0, 1) := by decide +kernel
theorem dX11_isGoal_33 : decode cX11_isGoal 33 = .ok (.getfield 62, 3) := by decide +kernel
theorem dX11_isGoal_36 : decode cX11_isGoal 36 = .ok (.iconst 1, 1) := by decide +kernel
theorem dX11_isGoal_37 : decode cX11_isGoal 37 = .ok (.iload_n 1, 1) := by decide +kernel
theorem dX11_isGoal_38 : decode cX11_isGoal 38 = .ok (.iadd, 1) := by decide +kernel
theorem dX11_isGoal_39 : decode cX11_isGoal 39 = .ok (.iaload, 1) := by decide +kernel
theorem dX11_isGoal_40 : decode cX11_isGoal 40 = .ok (.if_icmp .ne 23, 3) := by decide +kernel
theorem dX11_isGoal_43 : decode cX11_isGoal 43 = .ok (.aload_n 0, 1) := by decide +kernel
theorem dX11_isGoal_44 : decode cX11_isGoal 44 = .ok (.bipush 25, 2) := by decide +kernel
theorem dX11_isGoal_46 : decode cX11_isGoal 46 = .ok (.iload_n 1, 1) := by decide +kernel
theorem dX11_isGoal_47 : decode cX11_isGoal 47 = .ok (.iadd, 1) := by decide +kernel
theorem dX11_isGoal_48 : decode cX11_isGoal 48 = .ok (.invokevirtual 234, 3) := by decide +kernel
theorem dX11_isGoal_51 : decode cX11_isGoal 51 = .ok (.aload_n 0, 1) := by decide +kernel
theorem dX11_isGoal_52 : decode cX11_isGoal 52 = .ok (.getfield 62, 3) := by decide +kernel
theorem dX11_isGoal_55 : decode cX11_isGoal 55 = .ok (.bipush 25, 2) := by decide +kernel
theorem dX11_isGoal_57 : decode cX11_isGoal 57 = .ok (.iload_n 1, 1) := by decide +kernel
theorem dX11_isGoal_58 : decode cX11_isGoal 58 = .ok (.iadd, 1) := by decide +kernel
theorem dX11_isGoal_59 : decode cX11_isGoal 59 = .ok (.iaload, 1) := by decide +kernel
theorem dX11_isGoal_60 : decode cX11_isGoal 60 = .ok (.if_icmp .eq 5, 3) := by decide +kernel
theorem dX11_isGoal_63 : decode cX11_isGoal 63 = .ok (.iconst 0, 1) := by decide +kernel
theorem dX11_isGoal_64 : decode cX11_isGoal 64 = .ok (.ireturn, 1) := by decide +kernel
theorem dX11_isGoal_65 : decode cX11_isGoal 65 = .ok (.iinc 1 1, 3) := by decide +kernel
theorem dX11_isGoal_68 : decode cX11_isGoal 68 = .ok (.goto (-51), 3) := by decide +kernel
theorem dX11_isGoal_71 : decode cX11_isGoal 71 = .ok (.iconst 1, 1) := by decide +kernel
theorem dX11_isGoal_72 : decode cX11_isGoal 72 = .ok (.ireturn, 1) := by decide +kernel
set_option maxRecDepth 20000 in
theorem ggX11_isSameBy_X11_asTold : GoodIn wsX11_isSameBy wsX11_asTold := goodIn_r _ [9, 10, 11, 12, 13, 8, 14, 15, 16, 17, 18, 19, 20, 21, 22, 23, 24, 25, 26, 27, 28, 29, 30, 31, 32, 33, 34, 35, 36, 37, 38, 39, 40, 41, 42, 43, 44, 45, 46, 47, 48, 49, 50, 51, 52, 53, 3, 54, 55, 167, 168, 169, 170, 171, 172, 173, 174, 175, 176, 177, 178, 179, 180, 181, 182, 183, 184, 185, 186, 187, 188, 189, 190, 191, 192, 193, 194, 195, 196, 197, 198, 199, 200, 201, 202, 203, 204, 205, 206, 207, 208, 209, 210, 211, 212] (by decide +kernel) (by decide +kernel)
